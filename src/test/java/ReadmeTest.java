import java.io.File;
import java.io.IOException;
import java.lang.reflect.Method;
import java.nio.file.Files;
import java.nio.file.Path;
import java.util.ArrayList;
import java.util.Arrays;
import java.util.List;
import java.util.Map;
import java.util.Set;
import java.util.TreeMap;
import java.util.TreeSet;
import java.util.regex.Matcher;
import java.util.regex.Pattern;

/** What README.md says is so. Runs in the project's root, as .ci/run does. */
public final class ReadmeTest {
    private static final Pattern CALL = Pattern.compile("\\| `(\\w+)\\(([^)]*)\\)` \\|[^|]*\\|([^|]*)\\|");
    private static final Pattern PROMISE = Pattern.compile("## Promise \\d+: \\w+\\s+`\\w+ (\\w+)\\([^`]*`:([^\\n]*)");
    private static final Pattern REFUSAL = Pattern.compile("\\b(BAD|NO|FULL|NONE)\\b");
    private static final Pattern TEST = Pattern.compile("`(\\w+Test)`");
    private static final Pattern OWN_CLASS = Pattern.compile("private static final class (\\w+)");
    private static final Path OWN_SOURCE = Path.of("src/test/java/ReadmeTest.java");

    public static void main(String[] args) throws IOException {
        String readme = Files.readString(Path.of("README.md"));
        example();
        exampleIsTheReadmes(readme);
        calls(readme);
        refusals(readme);
        tests(readme);
        ownClasses(readme);
        Due.end();
    }

    /** README's example, letter by letter; exampleIsTheReadmes compares the two. */
    private static void example() {
        // example
        StileCounts x = new StileCounts();          // a first walk of three stretches is laid
        for (char c : "s20,1,2;s30,3,1;u2,1,2;".toCharArray()) {
            x.write(c);
        }
        if (x.fault() == StileCounts.NONE) {
            x.lay();                                // two stretches now
        }
        x.walk();                                   // behind stretch 1
        x.count(2, 0);                              // counted by pairs: none is missing
        long above = x.missing(0), below = x.missing(1);   // 1 of 91
        long what = x.decide(0);                    // 0: go on
        // end of example
        Due.is("stretches of a new object", 3, new StileCounts().many(0));
        Due.is("stretches laid", 2, x.many(0));
        Due.is("stretches walked", 1, x.many(1));
        Due.is("behind which stretch", 1, x.told(0, 0));
        Due.part("missing", 1, 91, above, below);
        Due.is("decide", 0, what);
    }

    private static void exampleIsTheReadmes(String readme) throws IOException {
        List<String> own = between(Files.readString(OWN_SOURCE), "        // example", "        // end of example");
        List<String> told = between(readme, "```java", "```");
        Due.is("the example has lines", !told.isEmpty());
        Due.is("the example of README.md is the one above", stripped(told).equals(stripped(own)));
    }

    private static List<String> between(String text, String begin, String end) {
        List<String> lines = Arrays.asList(text.split("\n"));
        int from = lines.indexOf(begin);
        List<String> rest = lines.subList(from + 1, lines.size());
        int to = rest.indexOf(end);
        return from < 0 || to < 0 ? List.of() : rest.subList(0, to);
    }

    private static List<String> stripped(List<String> lines) {
        List<String> all = new ArrayList<>();
        for (String line : lines) {
            all.add(line.strip());
        }
        return all;
    }

    private static void calls(String readme) {
        Map<String, Integer> told = new TreeMap<>();
        Matcher m = CALL.matcher(readme);
        while (m.find()) {
            told.put(m.group(1), m.group(2).isEmpty() ? 0 : m.group(2).split(",").length);
        }
        Map<String, Integer> face = new TreeMap<>();
        for (Method method : StileCounts.class.getMethods()) {
            if (method.getDeclaringClass() == StileCounts.class) {
                face.put(method.getName(), method.getParameterCount());
            }
        }
        Due.is("calls of README.md: " + told, told.equals(face));
    }

    private static void refusals(String readme) throws IOException {
        Map<String, Set<String>> due = new TreeMap<>();
        Matcher promise = PROMISE.matcher(Files.readString(Path.of("../shared/DOC.md")));
        while (promise.find()) {
            due.put(promise.group(1), refusalsIn(promise.group(2)));
        }
        Due.is("calls that the document promises", 31, due.size());
        Matcher call = CALL.matcher(readme);
        while (call.find()) {
            Set<String> told = refusalsIn(call.group(3));
            Due.is("refusals of " + call.group(1) + ": " + told, told.equals(due.get(call.group(1))));
        }
    }

    private static Set<String> refusalsIn(String words) {
        return all(REFUSAL, words);
    }

    private static void tests(String readme) {
        Set<String> there = new TreeSet<>();
        String[] files = new File("src/test/java").list();
        for (String file : files == null ? new String[0] : files) {
            there.add(file.replace(".java", ""));
        }
        Due.is("tests of README.md, there are " + there, all(TEST, readme).equals(there));
    }

    private static void ownClasses(String readme) throws IOException {
        String source = Files.readString(Path.of("src/main/java/StileCounts.java"));
        for (String name : all(OWN_CLASS, source)) {
            Due.is("README.md tells of class " + name, readme.contains("`" + name + "`"));
        }
    }

    private static Set<String> all(Pattern pattern, String words) {
        Set<String> found = new TreeSet<>();
        Matcher m = pattern.matcher(words);
        while (m.find()) {
            found.add(m.group(1));
        }
        return found;
    }
}
