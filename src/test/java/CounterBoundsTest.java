/** The bounds of "4 TWO who make a HEAP count" and of promises 23 to 29: a test for each sentence that names one. */
public final class CounterBoundsTest {
    private static final int BAD = StileCounts.BAD, NONE = StileCounts.NONE;
    private static final int[] FAR_OFF = {Integer.MIN_VALUE, Integer.MIN_VALUE + 1, -1000, 1000000, 65536,
        Integer.MAX_VALUE - 1, Integer.MAX_VALUE};

    public static void main(String[] args) {
        twoSameAndWrong();
        twoBounds();
        groupsOfTwoToFive();
        groupsBounds();
        leastGroup();
        noGroup();
        sizeBounds();
        answeredByTheLowest();
        answeredByNone();
        answeredBounds();
        marchOneAlone();
        marchTwoAndTwo();
        marchTheFirst();
        marchBounds();
        schoolsEnds();
        schoolsBounds();
        dayDraws();
        dayAheadOfTheCount();
        dayFetched();
        dayOverAll();
        dayBounds();
        Due.end();
    }

    private static void twoSameAndWrong() {
        Due.says("TWO: the chance that both tell the same and are wrong; that both are right; in lowest terms");
        int[][] wrong = {{0, 1}, {1, 50}, {2, 25}, {9, 50}, {8, 25}, {1, 2}};
        int[][] right = {{1, 1}, {16, 25}, {9, 25}, {4, 25}, {1, 25}, {0, 1}};
        for (int u = 0; u <= 5; u++) {
            StileCounts x = Due.laid("s1,10,0;u0," + u + ",1;u1,3,1;u2,3,1;u3,3,1;");
            Due.part("wrong, U " + u, wrong[u][0], wrong[u][1], x.two(false, 0), x.two(false, 1));
            Due.part("right, U " + u, right[u][0], right[u][1], x.two(true, 0), x.two(true, 1));
            // All being there, whoever is away now, and though nothing can be so.
            x.walk();
            Due.part("right, one away", right[u][0], right[u][1], x.two(true, 0), x.two(true, 1));
            x.count(1, 0);
            Due.part("wrong, nothing can be so", wrong[u][0], wrong[u][1], x.two(false, 0), x.two(false, 1));
        }
    }

    private static void twoBounds() {
        Due.says("TWO: above (part = 0), below (1). BAD");
        StileCounts x = new StileCounts();
        for (int part = -9; part <= 9; part++) {
            Due.is("two(false, " + part + ")", part == 0 ? 2 : part == 1 ? 25 : BAD, x.two(false, part));
            Due.is("two(true, " + part + ")", part == 0 ? 9 : part == 1 ? 25 : BAD, x.two(true, part));
        }
        for (int n : FAR_OFF) {
            Due.is("two(false, " + n + ")", BAD, x.two(false, n));
            Due.is("two(true, " + n + ")", BAD, x.two(true, n));
        }
    }

    private static void groupsOfTwoToFive() {
        Due.says("GROUPS of g (2 to 5): the chance that each of the g less 1 others slips, by U of PAIRS of ten");
        int[][] lowest = {{0, 1}, {1, 10}, {1, 5}, {3, 10}, {2, 5}, {1, 2}};
        for (int u = 0; u <= 5; u++) {
            StileCounts x = Due.laid("s1,0,0;u2," + u + ",1;u0,4,1;u1,4,1;u3,4,1;");
            int above = 1;
            int below = 1;
            for (int g = 2; g <= 5; g++) {
                above *= lowest[u][0];
                below *= lowest[u][1];
                Due.part("groups of " + g + ", U " + u, above, below, x.groups(g, 0), x.groups(g, 1));
            }
        }
    }

    private static void groupsBounds() {
        Due.says("GROUPS: above (part = 0), below (1). BAD");
        StileCounts x = new StileCounts();
        for (int g = -4; g <= 10; g++) {
            for (int part = -3; part <= 4; part++) {
                boolean so = g >= 2 && g <= 5 && part >= 0 && part <= 1;
                int below = so ? new int[] {10, 100, 1000, 10000}[g - 2] : 0;
                Due.is("groups(" + g + ", " + part + ")", !so ? BAD : part == 0 ? 1 : below, x.groups(g, part));
            }
        }
        for (int n : FAR_OFF) {
            Due.is("groups(" + n + ", 0)", BAD, x.groups(n, 0));
            Due.is("groups(2, " + n + ")", BAD, x.groups(2, n));
        }
    }

    private static void leastGroup() {
        Due.says("SIZE: the least g (2 to 5) for which that is no more than x (0 to 99) of a hundred");
        // By U: the least x for which 2, 3, 4, 5 will do.
        int[][] least = {{0, 0, 0, 0}, {10, 1, 1, 1}, {20, 4, 1, 1}, {30, 9, 3, 1}, {40, 16, 7, 3}, {50, 25, 13, 7}};
        for (int u = 0; u <= 5; u++) {
            StileCounts x = Due.laid("s1,0,0;u2," + u + ",1;u0,0,1;u1,0,1;u3,0,1;");
            for (int percent = 0; percent <= 99; percent++) {
                int due = NONE;
                for (int g = 5; g >= 2; g--) {
                    due = percent >= least[u][g - 2] ? g : due;
                }
                Due.is("size(" + percent + "), U " + u, due, x.size(percent));
            }
        }
    }

    private static void noGroup() {
        Due.says("SIZE: none");
        Due.is("size(0), U 0", 2, Due.laid("s1,0,0;u2,0,1;").size(0));
        Due.is("size(0), U 1", NONE, Due.laid("s1,0,0;u2,1,1;").size(0));
        Due.is("size(6), U 5", NONE, Due.laid("s1,0,0;u2,5,1;").size(6));
        Due.is("size(7), U 5", 5, Due.laid("s1,0,0;u2,5,1;").size(7));
    }

    private static void sizeBounds() {
        Due.says("SIZE: x (0 to 99). BAD");
        StileCounts x = new StileCounts();
        for (int percent = -9; percent <= 109; percent++) {
            boolean so = percent >= 0 && percent <= 99;
            Due.is("size(" + percent + ")", !so ? BAD : percent >= 10 ? 2 : percent >= 1 ? 3 : NONE, x.size(percent));
        }
        for (int n : FAR_OFF) {
            Due.is("size(" + n + ")", BAD, x.size(n));
        }
    }

    private static void answered(StileCounts x, int i, int who, int above, int below) {
        Due.is("answered(" + i + ", 0)", who, x.answered(i, 0));
        Due.part("answered for " + i, above, below, x.answered(i, 1), x.answered(i, 2));
    }

    private static void answeredByTheLowest() {
        Due.says("ANSWERED: who did so most likely, each by his TIE, of several the lowest: he; by what part of all");
        StileCounts x = Due.laid("s1,0,0;k6;t0,1,9;t0,2,9;t0,3,9;t0,4,9;t0,5,9;");
        answered(x, 0, 1, 1, 5);
        answered(x, 1, 0, 1, 1);
        answered(x, 5, 0, 1, 1);
        x = Due.laid("s1,0,0;k6;t5,0,2;t5,1,2;t5,2,3;t5,3,3;t5,4,2;");
        answered(x, 5, 2, 1, 4);
        answered(x, 4, 5, 1, 1);
        x = Due.laid("s1,0,0;k6;t2,4,1;t2,5,1;t2,0,0;");
        answered(x, 2, 4, 1, 2);
        answered(x, 4, 2, 1, 1);
        answered(Due.laid("s1,0,0;k2;t0,1,1;"), 0, 1, 1, 1);
        answered(Due.laid("s1,0,0;k6;t0,1,4;t0,2,6;t0,3,2;"), 0, 2, 1, 2);
    }

    private static void answeredByNone() {
        Due.says("ANSWERED: none (no TIES)");
        for (int n = 1; n <= 6; n++) {
            StileCounts x = Due.laid("s1,0,0;k" + n + ";" + (n > 2 ? "t0,1,9;" : ""));
            for (int i = 0; i < n; i++) {
                boolean tied = n > 2 && i < 2;
                answered(x, i, tied ? 1 - i : NONE, tied ? 1 : NONE, tied ? 1 : NONE);
            }
        }
    }

    private static void answeredBounds() {
        Due.says("ANSWERED: who (what = 0), what part: above (1), below (2). BAD");
        for (int n = 1; n <= 6; n++) {
            StileCounts x = Due.laid("s1,0,0;k" + n + ";");
            for (int i = -3; i <= 9; i++) {
                for (int what = -3; what <= 5; what++) {
                    boolean so = i >= 0 && i < n && what >= 0 && what <= 2;
                    Due.is("answered(" + i + ", " + what + ") of " + n, so ? NONE : BAD, x.answered(i, what));
                }
            }
            for (int f : FAR_OFF) {
                Due.is("answered(" + f + ", 0)", BAD, x.answered(f, 0));
                Due.is("answered(0, " + f + ")", BAD, x.answered(0, f));
            }
        }
    }

    private static void march(String ties, int least, int... with) {
        StileCounts x = Due.laid("s1,0,0;k" + with.length + ";" + ties);
        Due.is("march(-1) of " + with.length + " " + ties, least, x.march(-1));
        for (int i = 0; i < with.length; i++) {
            Due.is("march(" + i + ") of " + with.length + " " + ties, with[i], x.march(i));
        }
    }

    private static void marchOneAlone() {
        Due.says("two and two (one alone, if they are odd)");
        march("", 0, NONE);
        march("", 0, NONE, 2, 1);
        march("", 0, NONE, 2, 1, 4, 3);
        march("t0,1,1;t0,2,2;t1,2,3;", 1, 1, 0, NONE);
        march("t0,1,2;t0,2,1;t1,2,3;", 1, 2, NONE, 0);
        march("t0,1,2;t0,2,3;t1,2,1;", 1, NONE, 2, 1);
        // No more than one: three alone would cost nothing.
        march("t0,1,9;t0,2,9;t1,2,9;", 9, NONE, 2, 1);
        march("t0,1,9;t0,2,9;t0,3,9;t0,4,9;t1,2,9;t1,3,9;t1,4,9;t2,3,9;t2,4,9;t3,4,9;", 18, NONE, 2, 1, 4, 3);
    }

    private static void marchTwoAndTwo() {
        Due.says("two and two always else");
        march("", 0, 1, 0);
        march("t0,1,9;", 9, 1, 0);
        march("t0,1,9;t0,2,9;t0,3,9;", 9, 1, 0, 3, 2);
        march("t0,1,9;t0,2,9;t0,3,9;t0,4,9;t0,5,9;", 9, 1, 0, 3, 2, 5, 4);
        march("t0,1,9;t0,2,8;t0,3,9;", 8, 2, 3, 0, 1);
        march("t0,1,9;t0,2,9;t0,3,9;t0,4,9;t0,5,8;", 8, 5, 2, 1, 4, 3, 0);
    }

    private static void marchTheFirst() {
        Due.says("of several the first (by whom FRIEND 0 goes with, alone first, then the lowest; then 1, ..)");
        march("", 0, 1, 0, 3, 2);
        march("", 0, 1, 0, 3, 2, 5, 4);
        march("t0,1,1;", 0, 2, 3, 0, 1);
        march("t0,1,1;t2,3,1;t0,2,1;t1,3,1;", 0, 3, 2, 1, 0);
        march("t1,2,1;", 0, 1, 0, NONE);
        march("t1,2,1;t0,1,1;", 0, 2, NONE, 0);
        // 0 alone, then 1 with the lowest that is as good.
        march("t1,2,1;", 0, NONE, 3, 4, 1, 2);
        march("t1,2,1;t1,3,1;", 0, NONE, 4, 3, 2, 1);
        // 0 with 1, then 2 alone ahead of 2 with 3, where that is as good.
        march("t1,2,1;t1,3,1;t1,4,1;", 0, 1, 0, NONE, 4, 3);
        march("t1,2,1;t1,3,1;t1,4,1;t3,4,1;", 0, 1, 0, 3, 2, NONE);
        march("t2,3,1;", 0, 1, 0, 4, 5, 2, 3);
    }

    private static void marchBounds() {
        Due.says("MARCH: TIES in all (i = -1), with whom one goes (NONE). BAD");
        for (int n = 1; n <= 6; n++) {
            StileCounts x = Due.laid("s1,0,0;k" + n + ";");
            for (int i = -9; i <= 9; i++) {
                Due.is("march(" + i + ") of " + n, i >= -1 && i < n ? 0 : 1, x.march(i) == BAD ? 1 : 0);
            }
            for (int f : FAR_OFF) {
                Due.is("march(" + f + ")", BAD, x.march(f));
            }
        }
    }

    private static void schoolsEnds() {
        Due.says("till it is known of all: the fewest questions that can do; the most that can be needed");
        StileCounts x = new StileCounts();
        for (int n = 0; n <= 20; n++) {
            Due.is("fewest of none and " + n, 0, x.schools(0, n, 0));
            Due.is("most of none and " + n, 0, x.schools(0, n, 1));
            Due.is("fewest of " + n + " and none", 0, x.schools(n, 0, 0));
            Due.is("most of " + n + " and none", 0, x.schools(n, 0, 1));
        }
        for (int n = 1; n <= 20; n++) {
            Due.is("fewest of one and " + n, 1, x.schools(1, n, 0));
            Due.is("most of one and " + n, n, x.schools(1, n, 1));
            Due.is("fewest of " + n + " and 20", n, x.schools(n, 20, 0));
            Due.is("most of " + n + " and 20", n + 19, x.schools(n, 20, 1));
            Due.is("fewest of 20 and " + n, n, x.schools(20, n, 0));
            Due.is("most of 20 and " + n, n + 19, x.schools(20, n, 1));
        }
    }

    private static void schoolsBounds() {
        Due.says("SCHOOLS: (0 to 20 each): the fewest (what = 0), the most (1). BAD");
        for (int a = -3; a <= 23; a++) {
            StileCounts x = new StileCounts();
            for (int what = -3; what <= 4; what++) {
                boolean so = a >= 0 && a <= 20 && what >= 0 && what <= 1;
                int due = !so ? BAD : a == 0 ? 0 : what == 0 ? 1 : a;
                Due.is("schools(" + a + ", 1, " + what + ")", due, x.schools(a, 1, what));
                Due.is("schools(1, " + a + ", " + what + ")", due, x.schools(1, a, what));
                Due.is("schools(0, 21, " + what + ")", BAD, x.schools(0, 21, what));
                Due.is("schools(-1, 0, " + what + ")", BAD, x.schools(-1, 0, what));
            }
        }
        StileCounts x = new StileCounts();
        for (int n : FAR_OFF) {
            Due.is("schools(" + n + ", 1, 0)", BAD, x.schools(n, 1, 0));
            Due.is("schools(1, " + n + ", 0)", BAD, x.schools(1, n, 0));
            Due.is("schools(1, 1, " + n + ")", BAD, x.schools(1, 1, n));
        }
    }

    private static void day(StileCounts x, int z, int set, int minutes, int losses) {
        Due.is("day(" + z + ", " + set + ", 0)", minutes, x.day(z, set, 0));
        Due.is("day(" + z + ", " + set + ", 1)", losses, x.day(z, set, 1));
    }

    /** The draws modulo 10 by which the eight stretches go, as worked out apart. */
    private static final int[][] DRAWS = {{0, 5, 7, 4, 8, 7, 2, 3, 0}, {1, 2, 0, 4, 4, 9, 1, 8, 1},
        {2, 0, 4, 4, 0, 2, 0, 4, 4}, {9998, 7, 0, 9, 4, 5, 2, 4, 3}, {9999, 6, 6, 1, 2, 0, 3, 2, 7}};

    private static void dayDraws() {
        Due.says("lost, if DRAW modulo 10 is less than L, or comes back, if it is less than R");
        for (int[] draws : DRAWS) {
            for (int k = 1; k <= 8; k++) {
                String ahead = "s1,0,0;".repeat(k - 1);
                for (int l = 0; l <= 10; l++) {
                    boolean lost = draws[k] < l;
                    day(Due.laid(ahead + "s60," + l + ",0;"), draws[0], 0, lost ? 60 : 0, lost ? 1 : 0);
                }
                // Lost on the first for sure.
                for (int r = 0; k > 1 && r <= 10; r++) {
                    String between = "s1,0,0;".repeat(k - 2);
                    boolean back = draws[k] < r;
                    day(Due.laid("s1,10,0;" + between + "s60,10," + r + ";"), draws[0], 0,
                        k - 1 + (back ? 0 : 60), 1);
                }
            }
        }
    }

    private static void dayAheadOfTheCount() {
        Due.says("the minutes of all STRETCHES at whose end (ahead of the count) one is away, together");
        day(Due.laid("s60,10,0;"), 7, 0, 60, 1);
        day(Due.laid("s60,10,0;"), 7, 1, 60, 1);
        day(Due.laid("s60,10,0;s1,0,0;"), 7, 0, 61, 1);
        day(Due.laid("s60,10,0;s1,0,0;"), 7, 1, 60, 1);
        day(Due.laid("s60,10,0;s1,0,0;"), 7, 2, 61, 1);
        day(Due.laid("s60,10,0;s1,0,10;"), 7, 0, 60, 1);
        day(Due.laid("s60,0,0;s1,0,10;"), 7, 0, 0, 0);
    }

    private static void dayFetched() {
        Due.says("how often one is lost; whoever is away at a count being fetched");
        String eight = "s60,10,0;".repeat(8);
        for (int set = 0; set < 256; set++) {
            // Lost anew behind each count, but for one behind the last stretch.
            day(Due.laid(eight), 9999, set, 480, 1 + Integer.bitCount(set & 127));
        }
        StileCounts x = Due.laid("s60,10,10;".repeat(8));
        day(x, 0, 0, 240, 4);
        day(x, 0, 255, 480, 8);
        // Behind a count at which none is away nothing is other than it was.
        day(x, 0, 170, 240, 4);
        day(x, 0, 1, 300, 5);
    }

    private static void dayOverAll() {
        Due.says("over all STRETCHES, STATE 0 at first");
        StileCounts x = Due.laid("s1,10,0;s2,0,10;s4,10,0;");
        for (int k = 0; k <= 3; k++) {
            day(x, 5, 0, 5, 2);
            x.walk();
        }
        x.count(1, 0);
        day(x, 5, 0, 5, 2);
        x.keep();
        day(x, 5, 0, 5, 2);
        Due.is("walked", 3, x.many(1));
    }

    private static void dayBounds() {
        Due.says("A WALK by z (0 to 9999) and a set of STRETCHES (bits): minutes (what = 0), how often (1). BAD");
        for (int stretches = 1; stretches <= 8; stretches++) {
            StileCounts x = Due.laid("s1,10,0;".repeat(stretches));
            for (int set = -4; set <= 300; set++) {
                boolean so = set >= 0 && set < 1 << stretches;
                Due.is("day(0, " + set + ", 0) of " + stretches, so ? stretches : BAD, x.day(0, set, 0));
            }
            for (int z : new int[] {-2, -1, 0, 1, 9998, 9999, 10000, 10001}) {
                for (int what = -2; what <= 3; what++) {
                    boolean so = z >= 0 && z <= 9999 && (what == 0 || what == 1);
                    Due.is("day(" + z + ", 0, " + what + ")", !so ? BAD : what == 0 ? stretches : 1,
                        x.day(z, 0, what));
                }
            }
            for (int n : FAR_OFF) {
                Due.is("day(" + n + ", 0, 0)", BAD, x.day(n, 0, 0));
                Due.is("day(0, " + n + ", 0)", BAD, x.day(0, n, 0));
                Due.is("day(0, 0, " + n + ")", BAD, x.day(0, 0, n));
            }
        }
    }
}
