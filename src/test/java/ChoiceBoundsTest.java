/** The bounds of DECIDE, AGAIN, FAR, PLAN (promises 19 to 22): a test for each sentence that names one. */
public final class ChoiceBoundsTest {
    private static final int BAD = StileCounts.BAD, NONE = StileCounts.NONE;
    private static final int[] FAR_OFF = {Integer.MIN_VALUE, Integer.MIN_VALUE + 1, -1000, 1000, 65536,
        Integer.MAX_VALUE - 1, Integer.MAX_VALUE};
    private static final String GREATEST = "s59,3,1;s58,7,3;s57,1,1;s56,9,3;s55,3,9;s54,1,7;s53,3,3;s52,1,1;"
        + "u0,1,0;u1,5,3;u2,3,0;u3,1,0;h97,89,7;";

    public static void main(String[] args) {
        onIfAlike();
        decideAtTheEnds();
        decideBounds();
        ofSortsTheLowest();
        onlyIfLess();
        allThatItCanTell();
        againWithSixCounts();
        againBounds();
        noneToAll();
        ofSeveralTheLowestR();
        foundByNoneOrAll();
        goneOverAlone();
        farBounds();
        minutesAtMost();
        stretchesStillToBeWalked();
        ofSeveralTheLowestSet();
        fetchedAtACount();
        aheadOfTheCount();
        planBounds();
        nothingCanBeSo();
        greatestNumbers();
        Due.end();
    }

    private static void decide(StileCounts x, int which, long above, long below) {
        Due.is("decide(0)", which, x.decide(0));
        Due.part("decide", above, below, x.decide(1), x.decide(2));
    }

    private static void again(StileCounts x, int sort, long above, long below) {
        Due.is("again(0)", sort, x.again(0));
        Due.part("again", above, below, x.again(1), x.again(2));
    }

    private static void far(StileCounts x, int r, long above, long below) {
        Due.is("far(0)", r, x.far(0));
        Due.part("far", above, below, x.far(1), x.far(2));
    }

    private static void plan(StileCounts x, int t, int set, long above, long below) {
        Due.is("plan(" + t + ", 0)", set, x.plan(t, 0));
        Due.part("plan(" + t + ")", above, below, x.plan(t, 1), x.plan(t, 2));
    }

    private static void onIfAlike() {
        Due.says("DECIDE: the one that costs less (on, if alike); as much, in lowest terms");
        decide(Due.walked("s1,5,0;h20,20,8;", 1), 0, 10, 1);
        decide(Due.walked("s1,5,0;h20,21,8;", 1), 0, 10, 1);
        decide(Due.walked("s1,5,0;h21,20,8;", 1), 1, 10, 1);
        decide(Due.walked("s1,5,0;h19,20,8;", 1), 0, 19, 2);
        decide(Due.walked("s1,1,0;h90,10,8;", 1), 0, 9, 1);
        decide(Due.walked("s1,1,0;h91,10,8;", 1), 1, 9, 1);
        decide(Due.walked("s1,9,0;h11,99,8;", 1), 0, 99, 10);
        decide(Due.walked("s1,9,0;h12,99,8;", 1), 1, 99, 10);
    }

    private static void decideAtTheEnds() {
        Due.says("on (0) costs H times MISSING, back (1) B times the ODDS of STATE 0");
        decide(new StileCounts(), 0, 0, 1);
        decide(Due.laid("s1,10,0;h0,0,0;"), 0, 0, 1);
        decide(Due.laid("s1,10,0;h99,0,0;"), 0, 0, 1);
        decide(Due.walked("s1,10,0;h99,99,0;", 1), 1, 0, 1);
        decide(Due.walked("s1,10,0;h0,99,0;", 1), 0, 0, 1);
        decide(Due.walked("s1,10,0;h1,0,0;", 1), 1, 0, 1);
        decide(Due.walked("s1,5,0;h99,0,0;", 1), 1, 0, 1);
        decide(Due.walked("s1,5,0;h0,99,0;", 1), 0, 0, 1);
        decide(Due.walked("s1,5,0;h99,99,0;", 1), 0, 99, 2);
    }

    private static void decideBounds() {
        Due.says("DECIDE: which (what = 0), as much: above (1), below (2). BAD");
        StileCounts x = new StileCounts();
        int[] due = {0, 0, 1};
        for (int what = -9; what <= 9; what++) {
            Due.is("decide(" + what + ")", what >= 0 && what <= 2 ? due[what] : BAD, x.decide(what));
        }
        for (int n : FAR_OFF) {
            Due.is("decide(" + n + ")", BAD, x.decide(n));
        }
    }

    private static void ofSortsTheLowest() {
        Due.says("of SORTS that by which it costs least, of several the lowest");
        // None of them slips: each costs its minutes alone.
        int[][] minutes = {{3, 3, 3, 3}, {4, 3, 3, 3}, {4, 4, 3, 3}, {4, 4, 4, 3}, {3, 4, 4, 3}, {4, 3, 4, 3},
            {2, 3, 4, 5}, {5, 4, 3, 2}, {0, 0, 0, 0}, {1, 0, 0, 0}};
        int[] sort = {0, 1, 2, 3, 0, 1, 0, 3, 0, 1};
        for (int i = 0; i < sort.length; i++) {
            int[] c = minutes[i];
            StileCounts x = Due.walked("s1,5,0;h99,99,0;u0,0," + c[0] + ";u1,5," + c[1] + ";u2,0," + c[2]
                + ";u3,0," + c[3] + ";", 1);
            again(x, sort[i], c[sort[i]], 1);
        }
    }

    private static void onlyIfLess() {
        Due.says("if that is less than DECIDE costs now: it; as much (as DECIDE now, if none); none");
        String others = "u1,0,60;u2,0,60;u3,0,60;";
        again(Due.walked("s1,5,0;h20,20,8;u0,0,9;" + others, 1), 0, 9, 1);
        again(Due.walked("s1,5,0;h20,20,8;u0,0,10;" + others, 1), NONE, 10, 1);
        again(Due.walked("s1,5,0;h20,20,8;u0,0,11;" + others, 1), NONE, 10, 1);
        again(Due.walked("s1,5,0;h19,20,8;u0,0,9;" + others, 1), 0, 9, 1);
        again(Due.walked("s1,5,0;h19,20,8;u0,0,10;" + others, 1), NONE, 19, 2);
        // Nothing is won by a count that takes no time, if all are there for sure, or away.
        String free = "u0,0,0;u1,0,0;u2,0,0;u3,0,0;";
        again(Due.laid("s1,5,0;h99,99,8;" + free), NONE, 0, 1);
        again(Due.walked("s1,0,0;h99,99,8;" + free, 1), NONE, 0, 1);
        again(Due.walked("s1,10,0;h99,99,8;" + free, 1), NONE, 0, 1);
        again(Due.walked("s1,5,0;h0,99,8;" + free, 1), NONE, 0, 1);
        again(Due.walked("s1,5,0;h99,0,8;" + free, 1), NONE, 0, 1);
        again(Due.walked("s1,5,0;h1,1,8;" + free, 1), 0, 0, 1);
    }

    private static void allThatItCanTell() {
        Due.says("on the mean of all that it can tell, what DECIDE costs then");
        String others = "u1,0,60;u2,0,60;u3,0,60;";
        // Never right: "2 less" and "none" tell that one is away, "1 less" and "1 more" that none is.
        again(Due.walked("s1,5,0;h20,20,8;u0,5,0;" + others, 1), 0, 0, 1);
        // Of ten there 6 tell none, 2 1 less, 2 1 more; of ten away 2 none, 6 1 less, 2 2 less.
        again(Due.walked("s1,5,0;h20,20,8;u0,2,0;" + others, 1), 0, 4, 1);
        again(Due.walked("s1,5,0;h20,20,8;u0,2,5;" + others, 1), 0, 9, 1);
        again(Due.walked("s1,5,0;h20,20,8;u0,2,6;" + others, 1), NONE, 10, 1);
        // By 4 of ten it is wrong either way: "1 less" is told rather if none is away.
        again(Due.walked("s1,5,0;h20,20,8;u0,4,0;" + others, 1), 0, 4, 1);
        // Half of those who are away are overlooked.
        again(Due.walked("s1,5,0;h20,20,8;u0,2,60;u1,0,60;u2,5,0;u3,5,0;", 1), 2, 5, 1);
        again(Due.walked("s1,5,0;h20,20,8;u0,2,60;u1,0,60;u2,5,0;u3,4,0;", 1), 3, 4, 1);
    }

    private static void againWithSixCounts() {
        Due.says("AGAIN: a COUNT now costs its minutes (six COUNTS or not)");
        StileCounts x = Due.walked("s1,5,0;u0,0,1;u1,0,1;u2,0,1;u3,5,0;h99,1,8;", 1);
        for (int c = 0; c < 6; c++) {
            x.count(3, 0);
        }
        // One of 65 is away.
        Due.part("missing", 1, 65, x.missing(0), x.missing(1));
        decide(x, 1, 64, 65);
        // Called again, 1 less tells it for sure; behind none one of 129 is away, and to go on costs less.
        again(x, 3, 99, 130);
        Due.is("counts", 6, x.many(2));
    }

    private static void againBounds() {
        Due.says("AGAIN: the SORT (what = 0; NONE), as much: above (1), below (2). BAD");
        StileCounts x = new StileCounts();
        int[] due = {NONE, 0, 1};
        for (int what = -9; what <= 9; what++) {
            Due.is("again(" + what + ")", what >= 0 && what <= 2 ? due[what] : BAD, x.again(what));
        }
        for (int n : FAR_OFF) {
            Due.is("again(" + n + ")", BAD, x.again(n));
        }
    }

    private static void noneToAll() {
        Due.says("FAR: to go back over the last r STRETCHES that were walked (0 to all)");
        far(new StileCounts(), 0, 0, 1);
        String first = "s1,10,0;s1,0,0;s1,0,0;s1,0,0;s1,0,0;s1,0,0;s1,0,0;s1,0,0;h99,0,10;";
        for (int walked = 1; walked <= 8; walked++) {
            far(Due.walked(first, walked), walked, 2 * walked, 1);
        }
        String last = "s1,0,0;s1,0,0;s1,0,0;s1,0,0;s1,0,0;s1,0,0;s1,0,0;s1,10,0;h99,0,10;";
        far(Due.walked(last, 7), 0, 0, 1);
        far(Due.walked(last, 8), 1, 2, 1);
        far(Due.walked("s1,3,0;s1,3,0;s1,3,0;s1,3,0;s1,3,0;s1,3,0;s1,3,0;s1,3,0;h99,0,10;", 8), 8, 16, 1);
        far(Due.walked("s1,0,0;s1,0,0;s1,0,0;s1,0,0;s1,0,0;s1,0,0;s1,0,0;s1,0,0;h99,0,10;", 8), 0, 0, 1);
    }

    private static void ofSeveralTheLowestR() {
        Due.says("the r by which it costs least, of several the lowest; as much");
        // To go back costs 2, and spares H by F of a hundred.
        far(Due.walked("s1,10,0;h20,0,1;", 1), 0, 20, 1);
        far(Due.walked("s1,10,0;h21,0,1;", 1), 1, 209, 10);
        far(Due.walked("s1,10,0;h19,0,1;", 1), 0, 19, 1);
        far(Due.walked("s1,5,0;s1,10,0;h4,0,10;", 2), 0, 4, 1);
        far(Due.walked("s1,5,0;s1,10,0;h5,0,10;", 2), 2, 4, 1);
        // The last one alone is worth it; the first is as much as it spares.
        far(Due.walked("s10,5,0;s1,10,0;h40,0,10;", 2), 1, 22, 1);
        far(Due.walked("s9,5,0;s1,10,0;h40,0,10;", 2), 2, 20, 1);
    }

    private static void foundByNoneOrAll() {
        Due.says("what is found: F of ten of the ODDS of each STATE whose STRETCH is gone over");
        far(Due.walked("s1,10,0;h99,0,0;", 1), 0, 99, 1);
        for (int f = 1; f <= 10; f++) {
            StileCounts x = Due.walked("s1,10,0;h99,0," + f + ";", 1);
            Due.is("far(0)", 1, x.far(0));
            Due.is("far of ten", 20 + 99 * (10 - f), x.far(1) * 10 / x.far(2));
        }
        far(Due.walked("s1,10,0;h0,99,10;", 1), 0, 0, 1);
        far(Due.walked("s1,5,0;h99,0,10;", 1), 1, 2, 1);
        // B counts for nothing here.
        far(Due.walked("s1,5,0;h99,99,10;", 1), 1, 2, 1);
    }

    private static void goneOverAlone() {
        Due.says("of each STATE whose STRETCH is gone over");
        // Half each; the first lies behind 60 minutes, the last behind one.
        far(Due.walked("s60,5,0;s1,10,0;h99,0,10;", 2), 1, 103, 2);
        far(Due.walked("s1,5,0;s60,10,0;h99,0,10;", 2), 0, 99, 1);
        // Only what was walked can be gone over.
        far(Due.walked("s1,5,0;s1,10,0;h99,0,10;", 1), 1, 2, 1);
    }

    private static void farBounds() {
        Due.says("FAR: r (what = 0), as much: above (1), below (2). BAD");
        StileCounts x = Due.walked("s1,10,0;h99,0,10;", 1);
        int[] due = {1, 2, 1};
        for (int what = -9; what <= 9; what++) {
            Due.is("far(" + what + ")", what >= 0 && what <= 2 ? due[what] : BAD, x.far(what));
        }
        for (int n : FAR_OFF) {
            Due.is("far(" + n + ")", BAD, x.far(n));
        }
    }

    private static void minutesAtMost() {
        Due.says("of t minutes together at most");
        String eight = "s60,1,0;s60,1,0;s60,1,0;s60,1,0;s60,1,0;s60,1,0;s60,1,0;s60,1,0;";
        for (int c = 1; c <= 60; c++) {
            StileCounts x = Due.laid(eight + "u1,0," + c + ";");
            for (int n = 0; n <= 8; n++) {
                for (int t = n * c - 1; t <= n * c + 1; t++) {
                    if (t >= 0 && t <= 99) {
                        int counts = Integer.bitCount((int) x.plan(t, 0));
                        // One behind the last stretch is of no use.
                        Due.is("counts of " + c + " minutes in " + t, Math.min(7, t / c), counts);
                    }
                }
            }
        }
        plan(Due.laid(eight + "u1,0,1;"), 6, 63, 267, 5);
        plan(Due.laid(eight + "u1,0,1;"), 7, 127, 48, 1);
        plan(Due.laid(eight + "u1,0,1;"), 8, 127, 48, 1);
        Due.is("free ones", 127, Due.laid(eight + "u1,0,0;").plan(0, 0));
        Due.is("too dear", 0, Due.laid(eight + "u1,0,60;").plan(59, 0));
        // The other sorts' minutes do not count.
        Due.is("stile's minutes", 127, Due.laid(eight + "u1,0,1;u0,0,60;u2,0,60;u3,0,60;").plan(7, 0));
        Due.is("stile's minutes", 0, Due.laid(eight + "u1,0,60;u0,0,0;u2,0,0;u3,0,0;").plan(59, 0));
    }

    private static void stretchesStillToBeWalked() {
        Due.says("of sets of STRETCHES still to be walked (bits, STRETCH 1 the lowest)");
        StileCounts x = Due.laid("s60,1,0;s60,1,0;s60,1,0;s60,1,0;s60,1,0;s60,1,0;s60,1,0;s60,1,0;u1,0,0;");
        for (int walked = 0; walked <= 8; walked++) {
            int due = walked == 8 ? 0 : 127 >> walked << walked;
            Due.is("plan behind " + walked, due, x.plan(0, 0));
            x.walk();
        }
        Due.is("none left", 0, x.plan(99, 1));
        Due.is("none left", 1, x.plan(99, 2));
        // Behind the last one there is nothing to win.
        plan(Due.laid("s60,10,0;u1,0,0;"), 99, 0, 60, 1);
        plan(Due.walked("s60,10,0;s1,0,0;u1,0,0;", 1), 99, 0, 1, 1);
    }

    private static void ofSeveralTheLowestSet() {
        Due.says("is least, of several the lowest: it; that sum, in lowest terms");
        // None is ever lost: no count is of use.
        plan(Due.laid("s60,0,0;s60,0,0;u1,0,0;"), 99, 0, 0, 1);
        // Behind each one it is forgotten what was.
        plan(Due.laid("s10,5,5;s10,5,5;s10,5,5;u1,0,0;"), 99, 0, 15, 1);
        // One count, behind the first or the second: as good.
        plan(Due.laid("s10,10,0;s10,0,0;s10,0,0;u1,0,1;"), 1, 1, 10, 1);
        plan(Due.laid("s10,5,0;s10,5,0;s10,5,0;u1,0,1;"), 1, 1, 35, 2);
        // A higher set that is better.
        plan(Due.laid("s1,5,0;s1,5,0;s60,5,0;u1,0,1;"), 1, 2, 125, 4);
    }

    private static void fetchedAtACount() {
        Due.says("whoever is away is fetched (STATE 0 then)");
        plan(Due.laid("s10,10,0;s10,0,0;u1,0,1;"), 0, 0, 20, 1);
        plan(Due.laid("s10,10,0;s10,0,0;u1,0,1;"), 1, 1, 10, 1);
        // Fetched, one can be lost again; away, none can, and may come back: no count then.
        plan(Due.laid("s10,10,0;s10,10,10;u1,0,1;"), 99, 0, 10, 1);
        plan(Due.laid("s10,10,0;s10,10,0;u1,0,1;"), 99, 0, 20, 1);
        // Away now already.
        StileCounts x = Due.walked("s10,10,0;s10,0,0;s10,0,0;u1,0,1;", 1);
        plan(x, 0, 0, 20, 1);
        plan(x, 1, 2, 10, 1);
    }

    private static void aheadOfTheCount() {
        Due.says("the chance that one is away at its end (ahead of the count)");
        plan(Due.laid("s60,10,0;u1,0,0;"), 0, 0, 60, 1);
        plan(Due.laid("s60,1,0;u1,0,0;"), 0, 0, 6, 1);
        plan(Due.laid("s1,10,0;s60,1,0;u1,0,0;"), 0, 1, 7, 1);
    }

    private static void planBounds() {
        Due.says("PLAN for t (0 to 99) minutes: the set (what = 0), as much: above (1), below (2). BAD");
        StileCounts x = new StileCounts();
        for (int t = -5; t <= 105; t++) {
            boolean so = t >= 0 && t <= 99;
            Due.is("plan(" + t + ", 0)", so ? t < 4 ? 0 : t < 8 ? 1 : 3 : BAD, x.plan(t, 0));
            Due.is("plan(" + t + ", 3)", BAD, x.plan(t, 3));
        }
        int[] due = {3, 11, 1};
        for (int what = -9; what <= 9; what++) {
            Due.is("plan(99, " + what + ")", what >= 0 && what <= 2 ? due[what] : BAD, x.plan(99, what));
        }
        for (int n : FAR_OFF) {
            Due.is("plan(" + n + ", 0)", BAD, x.plan(n, 0));
            Due.is("plan(0, " + n + ")", BAD, x.plan(0, n));
        }
    }

    private static void nothingCanBeSo() {
        Due.says("NONE (nothing can be so)");
        StileCounts x = Due.walked("s1,5,0;s1,5,0;u0,0,0;u1,0,0;", 1);
        x.count(0, 1);
        for (int i = 0; i < 2; i++) {
            for (int what = 0; what <= 2; what++) {
                Due.is("decide(" + what + ")", NONE, x.decide(what));
                Due.is("again(" + what + ")", NONE, x.again(what));
                Due.is("far(" + what + ")", NONE, x.far(what));
                Due.is("plan(0, " + what + ")", NONE, x.plan(0, what));
                Due.is("plan(99, " + what + ")", NONE, x.plan(99, what));
            }
            x.walk();
        }
        x.undo();
        x.undo();
        Due.is("decide, undone", 1, x.decide(0));
        Due.is("again, undone", 0, x.again(0));
        Due.is("far, undone", 1, x.far(0));
        plan(x, 0, 0, 3, 4);
    }

    private static void greatestNumbers() {
        Due.says("as much, in lowest terms (eight STRETCHES, six COUNTS)");
        StileCounts x = Due.laid(GREATEST);
        int[] counts = {2, 3, 0, 2, 3, -1, 0, -1};
        for (int k = 0; k < 8; k++) {
            x.walk();
            if (counts[k] >= 0) {
                x.count(counts[k], 0);
            }
            if (k == 4) {
                decide(x, 0, 2650719L, 1488757L);
                again(x, 3, 2650719L, 14887570L);
                far(x, 0, 2650719L, 1488757L);
                plan(x, 2, 0, 16041786671L, 372189250L);
                plan(x, 3, 64, 2150961171L, 74437850L);
                plan(x, 5, 64, 2150961171L, 74437850L);
                plan(x, 6, 96, 397471921L, 14887570L);
                plan(x, 99, 96, 397471921L, 14887570L);
            }
        }
        decide(x, 0, 60229334769L, 4175755610L);
        again(x, 3, 60229334769L, 41757556100L);
        far(x, 0, 60229334769L, 4175755610L);
        plan(x, 99, 0, 0, 1);
    }
}
