import java.util.Random;

/** Runs of calls, drawn from seeds that stay, against the slow model; wrong numbers among them. */
public final class ModelTest {
    private static final int RUNS = 3000;
    // What an object answers behind its 512th call is free; a text to lay takes some 220 calls at most.
    private static final int MOST_CALLS = 500;
    private static final int CALLS_OF_A_TEXT = 220;
    private static final int[] FAR_OFF = {Integer.MIN_VALUE, Integer.MIN_VALUE + 1, -1000, 1000, 65536,
        Integer.MAX_VALUE - 1, Integer.MAX_VALUE};

    public static void main(String[] args) {
        for (int seed = 0; seed < RUNS && !Due.anyWrong(); seed++) {
            run(new Random(seed), "seed " + seed);
        }
        Due.end();
    }

    private static void run(Random r, String name) {
        StileCounts x = new StileCounts();
        Model m = new Model();
        boolean gentle = r.nextInt(4) != 0;
        int begin = Due.asked();
        for (int i = 0; Due.asked() - begin < MOST_CALLS && !Due.anyWrong(); i++) {
            boolean wanted = r.nextInt(40) == 0 || i == 0 && r.nextInt(4) != 0;
            if (wanted && Due.asked() - begin + CALLS_OF_A_TEXT < MOST_CALLS) {
                relay(r, x, m, name);
            }
            step(r, x, m, name + " call " + i, gentle);
            ask(r, x, m, name + " call " + i);
        }
    }

    private static void relay(Random r, StileCounts x, Model m, String name) {
        if (r.nextInt(5) != 0) {
            Due.is(name + " wipe", m.wipe(), x.wipe());
        }
        String text = someText(r);
        for (int i = 0; i < text.length(); i++) {
            Due.is(name + " write", m.write(text.charAt(i)), x.write(text.charAt(i)));
        }
        Due.is(name + " fault of " + text, m.fault(), x.fault());
        Due.is(name + " lay of " + text, m.lay(), x.lay());
    }

    private static String someText(Random r) {
        StringBuilder text = new StringBuilder();
        int stretches = r.nextInt(10);
        for (int k = 0; k < stretches; k++) {
            text.append('s').append(1 + r.nextInt(60)).append(',').append(r.nextInt(11)).append(',')
                .append(r.nextInt(11)).append(';');
        }
        int others = r.nextInt(12);
        for (int i = 0; i < others; i++) {
            switch (r.nextInt(4)) {
                case 0 -> text.append('u').append(r.nextInt(4)).append(',').append(r.nextInt(6)).append(',')
                    .append(r.nextInt(r.nextBoolean() ? 4 : 61)).append(';');
                case 1 -> text.append('h').append(r.nextInt(100)).append(',').append(r.nextInt(100)).append(',')
                    .append(r.nextInt(11)).append(';');
                case 2 -> text.append('k').append(1 + r.nextInt(6)).append(';');
                default -> text.append('t').append(r.nextInt(3)).append(',').append(3 + r.nextInt(2)).append(',')
                    .append(r.nextInt(10)).append(';');
            }
        }
        if (r.nextInt(4) == 0 && text.length() > 0) {
            String letters = "suhkt0123456789,;; ~";
            text.setCharAt(r.nextInt(text.length()), letters.charAt(r.nextInt(letters.length())));
        }
        return text.toString();
    }

    /** A number from least to most, seldom one beside them or far off. */
    private static int number(Random r, int least, int most) {
        int n = r.nextInt(30);
        if (n == 0) {
            return FAR_OFF[r.nextInt(FAR_OFF.length)];
        }
        if (n == 1) {
            return r.nextBoolean() ? least - 1 : most + 1;
        }
        return least + r.nextInt(most - least + 1);
    }

    private static void step(Random r, StileCounts x, Model m, String name, boolean gentle) {
        switch (r.nextInt(10)) {
            case 0, 1, 2 -> Due.is(name + " walk", m.walk(), x.walk());
            case 3, 4 -> {
                int sort = number(r, 0, 3);
                int d = gentle ? -r.nextInt(2) : number(r, -2, 1);
                Due.is(name + " count " + sort + " " + d, m.count(sort, d), x.count(sort, d));
            }
            case 5, 6 -> Due.is(name + " undo", m.undo(), x.undo());
            case 7 -> Due.is(name + " keep", m.keep(), x.keep());
            case 8 -> Due.is(name + " back", m.back(), x.back());
            default -> {
                int letter = number(r, 32, 126);
                Due.is(name + " write " + letter, m.write(letter), x.write(letter));
            }
        }
    }

    private static void ask(Random r, StileCounts x, Model m, String name) {
        int what = number(r, 0, 2);
        int part = number(r, 0, 1);
        int k = number(r, 0, 8);
        int f = number(r, 0, 5);
        switch (r.nextInt(26)) {
            case 0 -> Due.is(name + " odds " + k + " " + part, m.odds(k, part), x.odds(k, part));
            case 1 -> Due.is(name + " missing " + part, m.missing(part), x.missing(part));
            case 2 -> Due.is(name + " since", m.since(), x.since());
            case 3 -> Due.is(name + " judge", m.judge(), x.judge());
            case 4 -> Due.is(name + " backward " + part, m.backward(part), x.backward(part));
            case 5 -> Due.is(name + " decide " + what, m.decide(what), x.decide(what));
            case 6, 7 -> Due.is(name + " again " + what, m.again(what), x.again(what));
            case 8, 9 -> Due.is(name + " far " + what, m.far(what), x.far(what));
            case 10, 11 -> {
                int t = number(r, 0, 99);
                Due.is(name + " plan " + t + " " + what, m.plan(t, what), x.plan(t, what));
            }
            case 12 -> Due.is(name + " stretch", m.stretch(k, what), x.stretch(k, what));
            case 13 -> Due.is(name + " sort", m.sort(f, part), x.sort(f, part));
            case 14 -> Due.is(name + " cost", m.cost(what), x.cost(what));
            case 15 -> Due.is(name + " tie", m.tie(f, k), x.tie(f, k));
            case 16 -> Due.is(name + " told", m.told(f, what), x.told(f, what));
            case 17 -> Due.is(name + " fault", m.fault(), x.fault());
            case 18 -> Due.is(name + " two", m.two(k % 2 == 0, part), x.two(k % 2 == 0, part));
            case 19 -> Due.is(name + " groups", m.groups(f, part), x.groups(f, part));
            case 20 -> {
                int percent = number(r, 0, 99);
                Due.is(name + " size", m.size(percent), x.size(percent));
            }
            case 21 -> Due.is(name + " answered", m.answered(f, what), x.answered(f, what));
            case 22 -> {
                int i = number(r, -1, 5);
                Due.is(name + " march " + i, m.march(i), x.march(i));
            }
            case 23 -> {
                int a = number(r, 0, 20);
                int b = number(r, 0, 20);
                Due.is(name + " schools " + a + " " + b, m.schools(a, b, part), x.schools(a, b, part));
            }
            case 24 -> {
                int z = number(r, 0, 9999);
                int set = number(r, 0, (1 << m.many(0)) - 1);
                Due.is(name + " day " + z + " " + set, m.day(z, set, part), x.day(z, set, part));
            }
            default -> Due.is(name + " many", m.many(k), x.many(k));
        }
    }
}
