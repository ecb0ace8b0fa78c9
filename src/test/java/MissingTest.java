/** Promises 14 to 18: ODDS, MISSING, SINCE, JUDGED, BACKWARD. */
public final class MissingTest {
    private static final int BAD = StileCounts.BAD, NO = StileCounts.NO, NONE = StileCounts.NONE;

    public static void main(String[] args) {
        walkedOnly();
        countsOfEachSort();
        stileNeverSlips();
        wrongNumbers();
        nothingCanBeSo();
        since();
        judged();
        backward();
        longest();
        Due.end();
    }

    private static void odds(StileCounts x, int state, long above, long below) {
        Due.is("odds(" + state + ", 0)", above, x.odds(state, 0));
        Due.is("odds(" + state + ", 1)", below, x.odds(state, 1));
    }

    private static void missing(String when, StileCounts x, long above, long below) {
        Due.is(when + ": missing(0)", above, x.missing(0));
        Due.is(when + ": missing(1)", below, x.missing(1));
    }

    private static void walkedOnly() {
        StileCounts x = new StileCounts();
        odds(x, 0, 1, 1);
        odds(x, 3, 0, 1);
        x.walk();
        odds(x, 0, 9, 10);
        odds(x, 1, 1, 10);
        x.walk();
        // 0.9 of 0.7, and 0.1 of the tenth that was away.
        odds(x, 0, 16, 25);
        odds(x, 1, 9, 100);
        odds(x, 2, 27, 100);
        missing("two walked", x, 9, 25);
        x.walk();
        odds(x, 0, 41, 50);
        odds(x, 1, 9, 200);
        odds(x, 2, 27, 200);
        odds(x, 3, 0, 1);
    }

    /** Behind the first stretch 9 of ten are there; HEAP slips by 2, PAIRS by 1, CALLED by 3, STILE by 0. */
    private static void countsOfEachSort() {
        long[][][] due = {
            {{1, 1}, {1, 4}, {1, 28}, {0, 1}},
            {{NONE, NONE}, {1, 1}, {0, 1}, {NONE, NONE}},
            {{NONE, NONE}, {1, 1}, {1, 91}, {NONE, NONE}},
            {{NONE, NONE}, {1, 1}, {1, 31}, {NONE, NONE}},
        };
        for (int sort = 0; sort < 4; sort++) {
            for (int d = -2; d <= 1; d++) {
                StileCounts x = new StileCounts();
                x.walk();
                x.count(sort, d);
                missing("sort " + sort + " tells " + d, x, due[sort][d + 2][0], due[sort][d + 2][1]);
            }
        }
    }

    private static void stileNeverSlips() {
        StileCounts x = Due.laid("s1,5,0;u1,5,0;");
        x.walk();
        x.count(1, 0);
        missing("stile, whatever it slips", x, 0, 1);
        x.undo();
        x.count(1, -1);
        missing("stile, whatever it slips", x, 1, 1);
    }

    private static void wrongNumbers() {
        StileCounts x = new StileCounts();
        x.count(0, 0);
        int[] parts = {-1, 2, Integer.MIN_VALUE, Integer.MAX_VALUE};
        for (int part : parts) {
            Due.is("odds(0, " + part + ")", BAD, x.odds(0, part));
            Due.is("missing(" + part + ")", BAD, x.missing(part));
            Due.is("backward(" + part + ")", BAD, x.backward(part));
        }
        int[] states = {-1, 4, 8, 9, Integer.MIN_VALUE, Integer.MAX_VALUE};
        for (int state : states) {
            Due.is("odds(" + state + ", 0)", BAD, x.odds(state, 0));
        }
        Due.is("backward(2) without a count", BAD, new StileCounts().backward(2));
        Due.is("backward(0) without a count", NO, new StileCounts().backward(0));
    }

    private static void nothingCanBeSo() {
        StileCounts x = new StileCounts();
        x.count(1, 1);
        for (int part = 0; part < 2; part++) {
            Due.is("odds", NONE, x.odds(0, part));
            Due.is("odds", NONE, x.odds(3, part));
            Due.is("missing", NONE, x.missing(part));
        }
        Due.is("since", NONE, x.since());
        // A wrong number comes first of several.
        Due.is("odds of no state", BAD, x.odds(4, 0));
        Due.is("odds of no part", BAD, x.odds(0, 2));
        Due.is("missing of no part", BAD, x.missing(2));
        x.walk();
        Due.is("missing, one walked more", NONE, x.missing(0));
        x.undo();
        x.undo();
        Due.is("undone", 0, x.missing(0));
    }

    private static void since() {
        StileCounts x = Due.laid("s10,5,0;s10,10,0;s10,0,10;");
        Due.is("since, none walked", NONE, x.since());
        x.walk();
        Due.is("since the first", 1, x.since());
        x.walk();
        Due.is("of several the lowest", 1, x.since());
        x.walk();
        Due.is("all came back", NONE, x.since());
        x = new StileCounts();
        x.walk();
        Due.is("a tenth is enough", 1, x.since());
        x = Due.laid("s1,0,0;s1,0,0;s1,0,0;s1,0,0;s1,0,0;s1,0,0;s1,0,0;s1,1,0;u0,2,1;");
        for (int k = 0; k < 8; k++) {
            x.walk();
        }
        Due.is("since the eighth", 8, x.since());
        odds(x, 8, 1, 10);
        x.count(0, 0);
        odds(x, 8, 1, 28);
        x.count(1, 0);
        odds(x, 8, 0, 1);
        x = Due.laid("s10,2,0;s10,5,0;s10,3,0;");
        x.walk();
        x.walk();
        x.walk();
        Due.is("the greatest", 2, x.since());
        x.count(1, 0);
        Due.is("all are there for sure", NONE, x.since());
    }

    private static void judged() {
        StileCounts x = new StileCounts();
        Due.is("no counts", NONE, x.judge());
        x.count(0, 0);
        x.count(0, 1);
        Due.is("all can be", NONE, x.judge());
        x.count(2, -1);
        Due.is("the third can not", 2, x.judge());
        x.walk();
        x.count(1, 1);
        Due.is("of several the first", 2, x.judge());
        x.undo();
        x.undo();
        x.undo();
        Due.is("undone", NONE, x.judge());
        x.walk();
        x.count(1, -1);
        x.walk();
        Due.is("later ones can be", NONE, x.judge());
        x.count(0, 1);
        Due.is("one may have come back", NONE, x.judge());
    }

    private static void backward() {
        StileCounts x = new StileCounts();
        x.walk();
        x.count(1, -1);
        x.walk();
        missing("told", x, 9, 10);
        Due.is("backward(0)", 9, x.backward(0));
        Due.is("backward(1)", 25, x.backward(1));
        x.count(1, 1);
        missing("nothing can be so", x, NONE, NONE);
        Due.is("backward(0)", 9, x.backward(0));
        Due.is("backward(1)", 10, x.backward(1));
        x.count(0, 0);
        Due.is("backward, nothing can be so", NONE, x.backward(0));
        Due.is("backward, nothing can be so", NONE, x.backward(1));
        Due.is("backward, no part", BAD, x.backward(2));
        Due.is("counts stay", 3, x.many(2));
    }

    /** Eight stretches, six counts: the greatest numbers that there can be. */
    private static void longest() {
        StileCounts x = Due.laid("s60,3,1;s60,7,3;s60,1,1;s60,9,3;s60,3,9;s60,1,7;s60,3,3;s60,1,1;"
            + "u0,3,1;u2,1,1;u3,3,1;h99,99,7;");
        for (int k = 0; k < 8; k++) {
            x.walk();
        }
        for (int c = 0; c < 6; c++) {
            x.count(0, c % 2 == 0 ? 0 : -1);
        }
        double sum = 0;
        for (int s = 0; s <= 8; s++) {
            Due.is("odds above", x.odds(s, 0) >= 0 && x.odds(s, 0) <= x.odds(s, 1));
            sum += (double) x.odds(s, 0) / x.odds(s, 1);
        }
        Due.is("all odds together", sum > 1 - 1e-12 && sum < 1 + 1e-12);
    }
}
