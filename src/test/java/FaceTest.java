import java.lang.reflect.Constructor;
import java.lang.reflect.Field;
import java.lang.reflect.Method;
import java.lang.reflect.Modifier;
import java.util.Arrays;
import java.util.Set;
import java.util.TreeSet;

/** The face is the document's, and nothing else can be seen from outside (rule 1 of LANGUAGE.md). */
public final class FaceTest {
    private static final String[] FACE = {
        "int write(int)", "int wipe()", "int fault()", "int lay()", "int stretch(int,int)", "int sort(int,int)",
        "int cost(int)", "int tie(int,int)", "int walk()", "int count(int,int)", "int told(int,int)", "int undo()",
        "long odds(int,int)", "long missing(int)", "int since()", "int judge()", "long backward(int)",
        "long decide(int)", "long again(int)", "long far(int)", "long plan(int,int)", "int two(boolean,int)",
        "int groups(int,int)", "int size(int)", "int answered(int,int)", "int march(int)", "int schools(int,int,int)",
        "int day(int,int,int)", "int keep()", "int back()", "int many(int)",
    };

    public static void main(String[] args) {
        Class<?> c = StileCounts.class;
        Due.is("public and final", Modifier.isPublic(c.getModifiers()) && Modifier.isFinal(c.getModifiers()));

        Set<String> seen = new TreeSet<>();
        Set<String> publicNames = new TreeSet<>();
        Set<String> privateNames = new TreeSet<>();
        for (Method m : c.getDeclaredMethods()) {
            if (Modifier.isPrivate(m.getModifiers())) {
                privateNames.add(m.getName());
            } else {
                seen.add(signature(m));
                publicNames.add(m.getName());
                Due.is(m + " is public, of the object", Modifier.isPublic(m.getModifiers())
                    && !Modifier.isStatic(m.getModifiers()));
            }
        }
        Due.is("methods: " + seen, seen.equals(new TreeSet<>(Arrays.asList(FACE))));
        privateNames.retainAll(publicNames);
        Due.is("private methods with names of public ones: " + privateNames, privateNames.isEmpty());

        Constructor<?>[] made = c.getDeclaredConstructors();
        Due.is("constructors", 1, made.length);
        Due.is("public constructor without arguments",
            Modifier.isPublic(made[0].getModifiers()) && made[0].getParameterCount() == 0);

        Set<String> constants = new TreeSet<>();
        for (Field f : c.getDeclaredFields()) {
            if (!Modifier.isPrivate(f.getModifiers())) {
                constants.add(Modifier.toString(f.getModifiers()) + " " + f.getType() + " " + f.getName());
            }
            Due.is(f + " static ones are final",
                !Modifier.isStatic(f.getModifiers()) || Modifier.isFinal(f.getModifiers()));
        }
        Set<String> dueConstants = new TreeSet<>();
        for (String name : new String[] {"BAD", "NO", "FULL", "NONE"}) {
            dueConstants.add("public static final int " + name);
        }
        Due.is("constants: " + constants, constants.equals(dueConstants));
        Due.is("BAD", -1, StileCounts.BAD);
        Due.is("NO", -2, StileCounts.NO);
        Due.is("FULL", -3, StileCounts.FULL);
        Due.is("NONE", -4, StileCounts.NONE);

        for (Class<?> inner : c.getDeclaredClasses()) {
            Due.is(inner + " is static and not public", Modifier.isStatic(inner.getModifiers())
                && !Modifier.isPublic(inner.getModifiers()) && !Modifier.isProtected(inner.getModifiers()));
        }
        Due.end();
    }

    private static String signature(Method m) {
        StringBuilder s = new StringBuilder(m.getReturnType() + " " + m.getName() + "(");
        for (int i = 0; i < m.getParameterCount(); i++) {
            s.append(i == 0 ? "" : ",").append(m.getParameterTypes()[i]);
        }
        return s.append(")").toString();
    }
}
