/** The bounds of "2 At most one is away", SINCE, JUDGED, BACKWARD, and of promises 10 to 18, 30 to 32. */
public final class WayBoundsTest {
    private static final int BAD = StileCounts.BAD, NO = StileCounts.NO, FULL = StileCounts.FULL,
        NONE = StileCounts.NONE;
    private static final int[] FAR_OFF = {Integer.MIN_VALUE, Integer.MIN_VALUE + 1, -1000, 1000, 65536,
        Integer.MAX_VALUE - 1, Integer.MAX_VALUE};
    private static final String EIGHT = "s1,1,1;s2,1,1;s3,1,1;s4,1,1;s5,1,1;s6,1,1;s7,1,1;s8,1,1;";

    public static void main(String[] args) {
        stateAtFirst();
        atMostOneAway();
        lostOrBackNotBoth();
        neverAndAlways();
        whatHeapTells();
        whatStileTells();
        whatPairsAndCalledTell();
        walkedToTheEnd();
        countAheadOfAll();
        sixCounts();
        countedBounds();
        toldBounds();
        theLastEight();
        nothingToUndo();
        oddsBounds();
        oddsLowestTerms();
        oddsNone();
        missingBounds();
        sinceBounds();
        judgedBounds();
        backwardBounds();
        greatestNumbers();
        twoKept();
        backWithout();
        manyBounds();
        Due.end();
    }

    private static void odds(StileCounts x, int state, long above, long below) {
        Due.part("odds of " + state, above, below, x.odds(state, 0), x.odds(state, 1));
    }

    private static void missing(StileCounts x, long above, long below) {
        Due.part("missing", above, below, x.missing(0), x.missing(1));
    }

    private static void stateAtFirst() {
        Due.says("At first it is 0");
        StileCounts x = Due.laid("s1,10,0;s1,10,0;");
        odds(x, 0, 1, 1);
        odds(x, 1, 0, 1);
        odds(x, 2, 0, 1);
        missing(x, 0, 1);
    }

    private static void atMostOneAway() {
        Due.says("At most one is away at a time");
        StileCounts x = Due.walked("s1,10,0;s1,10,0;s1,10,0;", 3);
        odds(x, 0, 0, 1);
        odds(x, 1, 1, 1);
        odds(x, 2, 0, 1);
        odds(x, 3, 0, 1);
    }

    private static void lostOrBackNotBoth() {
        Due.says("On STRETCH k one is lost, if it is 0, else who is away comes back");
        StileCounts x = Due.laid("s1,10,10;s1,10,10;s1,10,10;s1,10,10;");
        for (int k = 1; k <= 4; k++) {
            x.walk();
            for (int s = 0; s <= 4; s++) {
                int now = k % 2 == 0 ? 0 : k;
                odds(x, s, s == now ? 1 : 0, 1);
            }
        }
        // Half is lost on the first; on the second half of those comes back, half of the others is lost.
        x = Due.walked("s1,5,5;s1,5,5;", 2);
        odds(x, 0, 1, 2);
        odds(x, 1, 1, 4);
        odds(x, 2, 1, 4);
    }

    private static void neverAndAlways() {
        Due.says("lost by L, comes back by R (0 to 10) of ten");
        for (int l = 0; l <= 10; l++) {
            StileCounts x = Due.walked("s1," + l + ",5;s1,0," + l + ";", 1);
            Due.is("L of ten", l, x.odds(1, 0) * 10 / x.odds(1, 1));
            Due.is("10 less L of ten", 10 - l, x.odds(0, 0) * 10 / x.odds(0, 1));
            x = Due.walked("s1,10,0;s1,10," + l + ";", 2);
            Due.is("R of ten", l, x.odds(0, 0) * 10 / x.odds(0, 1));
            Due.is("10 less R of ten", 10 - l, x.odds(1, 0) * 10 / x.odds(1, 1));
            Due.is("none is lost who came back", 0, x.odds(2, 0));
        }
    }

    /** Whether a count of a sort that slips by u can tell d, all being there, or one being away, for sure. */
    private static void canTell(int sort, int u, boolean away, int d, boolean so) {
        StileCounts x = Due.walked("s1," + (away ? 10 : 0) + ",0;u" + sort + "," + u + ",1;", 1);
        Due.is("count(" + sort + ", " + d + ")", 1, x.count(sort, d));
        String name = "sort " + sort + ", U " + u + (away ? ", one away" : ", all there") + ", tells " + d;
        Due.is(name, so ? away ? 1 : 0 : NONE, x.missing(0));
        Due.is(name, so ? NONE : 0, x.judge());
    }

    private static void whatHeapTells() {
        Due.says("HEAP tells by U of ten 1 less than is right, by U of ten 1 more, else what is right");
        for (int u = 0; u <= 5; u++) {
            canTell(0, u, false, -2, false);
            canTell(0, u, false, -1, u > 0);
            canTell(0, u, false, 0, u < 5);
            canTell(0, u, false, 1, u > 0);
            canTell(0, u, true, -2, u > 0);
            canTell(0, u, true, -1, u < 5);
            canTell(0, u, true, 0, u > 0);
            canTell(0, u, true, 1, false);
            // Half are away: "1 less" is told by 10 less 2 U of them, by U of the others.
            StileCounts x = Due.walked("s1,5,0;u0," + u + ",1;", 1);
            x.count(0, -1);
            Due.is("1 less", (10 - 2 * u) * x.odds(0, 0), u * x.odds(1, 0));
            x.undo();
            x.count(0, 0);
            Due.is("none", (10 - 2 * u) * x.odds(1, 0), u * x.odds(0, 0));
        }
    }

    private static void whatStileTells() {
        Due.says("STILE tells what is right (whatever U)");
        for (int u = 0; u <= 5; u++) {
            for (int d = -2; d <= 1; d++) {
                canTell(1, u, false, d, d == 0);
                canTell(1, u, true, d, d == -1);
            }
        }
    }

    private static void whatPairsAndCalledTell() {
        Due.says("PAIRS, CALLED tell by U of ten none, if 1 less is right; else what is right");
        for (int sort = 2; sort <= 3; sort++) {
            for (int u = 0; u <= 5; u++) {
                for (int d = -2; d <= 1; d++) {
                    canTell(sort, u, false, d, d == 0);
                    canTell(sort, u, true, d, d == -1 || d == 0 && u > 0);
                }
                StileCounts x = Due.walked("s1,5,0;u" + sort + "," + u + ",1;", 1);
                x.count(sort, 0);
                Due.is("U of ten that are away are overlooked", 10 * x.odds(1, 0), u * x.odds(0, 0));
            }
        }
    }

    private static void walkedToTheEnd() {
        Due.says("The next STRETCH is walked: which one it is. NO: there is none");
        for (String text : new String[] {"s1,1,1;", "s1,1,1;s1,1,1;", EIGHT}) {
            StileCounts x = Due.laid(text);
            int last = x.many(0);
            for (int k = 1; k <= last; k++) {
                Due.is("walk", k, x.walk());
            }
            Due.is("walk behind the last", NO, x.walk());
            Due.is("walk behind the last, again", NO, x.walk());
            Due.is("walked", last, x.many(1));
            Due.is("can be undone", last, x.many(5));
            Due.is("undo", last - 1, x.undo());
            Due.is("walk", last, x.walk());
            Due.is("walk behind the last", NO, x.walk());
        }
    }

    private static void countAheadOfAll() {
        Due.says("a COUNT is told behind the last one that is (or ahead of all)");
        StileCounts x = Due.laid(EIGHT);
        Due.is("count ahead of all", 1, x.count(1, 0));
        Due.is("behind which", 0, x.told(0, 0));
        missing(x, 0, 1);
        x.walk();
        Due.is("behind which, one walked", 0, x.told(0, 0));
        Due.is("count", 2, x.count(1, 0));
        Due.is("behind which", 1, x.told(1, 0));
        for (int k = 2; k <= 8; k++) {
            x.walk();
        }
        Due.is("count behind the last", 3, x.count(0, 0));
        Due.is("behind which", 8, x.told(2, 0));
        Due.is("walk", NO, x.walk());
        Due.is("count behind the last", 4, x.count(0, 0));
        Due.is("behind which", 8, x.told(3, 0));
    }

    private static void sixCounts() {
        Due.says("6 at most");
        StileCounts x = Due.laid(EIGHT);
        for (int c = 1; c <= 6; c++) {
            Due.is("count", c, x.count(0, 0));
        }
        Due.is("the seventh", FULL, x.count(0, 0));
        x.walk();
        Due.is("the seventh, one walked", FULL, x.count(1, -1));
        Due.is("counts", 6, x.many(2));
        Due.is("no seventh", BAD, x.told(6, 0));
        Due.is("can be undone", 7, x.many(5));
        x.undo();
        Due.is("the seventh, undone the walk", FULL, x.count(0, 0));
        x.undo();
        Due.is("the sixth again", 6, x.count(3, 1));
        Due.is("told", 3, x.told(5, 1));
        Due.is("lay", 8, x.lay());
        Due.is("the first again", 1, x.count(0, 0));
    }

    private static void countedBounds() {
        Due.says("A COUNT of a SORT tells d more (-2 to 1): BAD");
        for (int sort = -3; sort <= 7; sort++) {
            for (int d = -6; d <= 6; d++) {
                StileCounts x = new StileCounts();
                boolean so = sort >= 0 && sort <= 3 && d >= -2 && d <= 1;
                Due.is("count(" + sort + ", " + d + ")", so ? 1 : BAD, x.count(sort, d));
                Due.is("counts", so ? 1 : 0, x.many(2));
                Due.is("can be undone", so ? 1 : 0, x.many(5));
                Due.is("sort told", so ? sort : BAD, x.told(0, 1));
                Due.is("d and 2", so ? d + 2 : BAD, x.told(0, 2));
            }
        }
        StileCounts x = new StileCounts();
        for (int n : FAR_OFF) {
            Due.is("count(" + n + ", 0)", BAD, x.count(n, 0));
            Due.is("count(0, " + n + ")", BAD, x.count(0, n));
        }
        Due.is("counts", 0, x.many(2));
    }

    private static void toldBounds() {
        Due.says("Of a COUNT: behind which STRETCH (what = 0), SORT (1), d and 2 (2). BAD");
        for (int counts = 0; counts <= 6; counts++) {
            StileCounts x = new StileCounts();
            for (int c = 0; c < counts; c++) {
                if (c % 2 == 1) {
                    x.walk();
                }
                x.count(c % 4, 1 - c % 4);
            }
            for (int c = -2; c <= 8; c++) {
                for (int what = -2; what <= 4; what++) {
                    boolean so = c >= 0 && c < counts && what >= 0 && what <= 2;
                    int due = what == 0 ? (c + 1) / 2 : what == 1 ? c % 4 : 3 - c % 4;
                    Due.is("told(" + c + ", " + what + ") of " + counts, so ? due : BAD, x.told(c, what));
                }
            }
            for (int n : FAR_OFF) {
                Due.is("told(" + n + ", 0)", BAD, x.told(n, 0));
                Due.is("told(0, " + n + ")", BAD, x.told(0, n));
            }
        }
    }

    private static void theLastEight() {
        Due.says("UNDONE is the latest STRETCH walked, COUNT told (the last 8 can be)");
        StileCounts x = Due.laid(EIGHT);
        // Fourteen in all: six counts, eight stretches, by turns.
        for (int i = 1; i <= 14; i++) {
            if (i % 2 == 1 && i < 12) {
                x.count(i % 4, 0);
            } else {
                x.walk();
            }
            Due.is("can be undone of " + i, Math.min(i, 8), x.many(5));
        }
        Due.is("counts", 6, x.many(2));
        Due.is("walked", 8, x.many(1));
        int[][] left = {{7, 6}, {6, 6}, {5, 6}, {5, 5}, {4, 5}, {4, 4}, {3, 4}, {3, 3}};
        for (int i = 0; i < 8; i++) {
            Due.is("undo", 7 - i, x.undo());
            Due.is("walked", left[i][0], x.many(1));
            Due.is("counts", left[i][1], x.many(2));
        }
        Due.is("undo of the ninth", NO, x.undo());
        Due.is("walked", 3, x.many(1));
        Due.is("counts", 3, x.many(2));
        // What was undone makes place again, up to eight.
        for (int i = 1; i <= 5; i++) {
            x.walk();
            Due.is("can be undone", i, x.many(5));
        }
        for (int i = 1; i <= 3; i++) {
            x.count(0, 0);
            Due.is("can be undone", 5 + i, x.many(5));
        }
        Due.is("undo", 7, x.undo());
        Due.is("counts", 5, x.many(2));
        Due.is("walked", 8, x.many(1));
    }

    private static void nothingToUndo() {
        Due.says("UNDONE: how many more can be. NO");
        StileCounts x = new StileCounts();
        Due.is("undo, new", NO, x.undo());
        x.walk();
        Due.is("undo of one", 0, x.undo());
        Due.is("undo of none", NO, x.undo());
        x.count(0, 0);
        Due.is("undo of one", 0, x.undo());
        Due.is("undo of none", NO, x.undo());
        // Refused calls can not be undone.
        x.count(4, 0);
        x.count(0, 2);
        Due.is("undo of none", NO, x.undo());
        Due.is("walked", 0, x.many(1));
        Due.is("counts", 0, x.many(2));
        x.walk();
        x.walk();
        x.walk();
        x.walk();
        Due.is("undo of three", 2, x.undo());
        Due.is("walked", 2, x.many(1));
    }

    private static void oddsBounds() {
        Due.says("ODDS of a STATE (0 to as many as there are STRETCHES): above (part = 0), below (1). BAD");
        for (String text : new String[] {"s1,1,1;", "s1,1,1;s1,1,1;s1,1,1;", EIGHT}) {
            StileCounts x = Due.laid(text);
            int last = x.many(0);
            for (int state = -3; state <= 11; state++) {
                for (int part = -2; part <= 3; part++) {
                    boolean so = state >= 0 && state <= last && part >= 0 && part <= 1;
                    int due = !so ? BAD : state == 0 || part == 1 ? 1 : 0;
                    Due.is("odds(" + state + ", " + part + ") of " + last, due, x.odds(state, part));
                }
            }
            for (int n : FAR_OFF) {
                Due.is("odds(" + n + ", 0)", BAD, x.odds(n, 0));
                Due.is("odds(0, " + n + ")", BAD, x.odds(0, n));
            }
        }
    }

    private static void oddsLowestTerms() {
        Due.says("its part of what can be so, in lowest terms");
        StileCounts x = Due.walked("s1,5,0;s1,10,0;s1,0,10;", 1);
        odds(x, 0, 1, 2);
        odds(x, 1, 1, 2);
        odds(x, 3, 0, 1);
        x.walk();
        odds(x, 0, 0, 1);
        odds(x, 1, 1, 2);
        odds(x, 2, 1, 2);
        missing(x, 1, 1);
        x.walk();
        odds(x, 0, 1, 1);
        odds(x, 2, 0, 1);
        missing(x, 0, 1);
    }

    private static void oddsNone() {
        Due.says("none (nothing can be so)");
        StileCounts x = Due.laid(EIGHT);
        x.count(1, -1);
        for (int state = 0; state <= 8; state++) {
            for (int part = 0; part < 2; part++) {
                Due.is("odds(" + state + ", " + part + ")", NONE, x.odds(state, part));
            }
        }
        x.walk();
        x.count(1, 0);
        Due.is("odds, whatever comes later", NONE, x.odds(0, 0));
        Due.is("missing", NONE, x.missing(0));
        Due.is("missing", NONE, x.missing(1));
        Due.is("since", NONE, x.since());
        x.undo();
        x.undo();
        x.undo();
        odds(x, 0, 1, 1);
    }

    private static void missingBounds() {
        Due.says("MISSING: above (part = 0), below (1). NONE; BAD");
        StileCounts x = new StileCounts();
        for (int part = -9; part <= 9; part++) {
            Due.is("missing(" + part + ")", part == 0 ? 0 : part == 1 ? 1 : BAD, x.missing(part));
        }
        for (int n : FAR_OFF) {
            Due.is("missing(" + n + ")", BAD, x.missing(n));
        }
    }

    private static void sinceBounds() {
        Due.says("SINCE: the STATE but 0 of greatest ODDS, of several the lowest; none (all are there for sure)");
        StileCounts x = Due.laid("s1,1,0;s1,1,0;");
        Due.is("none walked", NONE, x.since());
        x.walk();
        Due.is("one of ten", 1, x.since());
        x.walk();
        Due.is("1 of ten, 9 of a hundred", 1, x.since());
        Due.is("alike", 1, Due.walked("s1,5,0;s1,10,0;", 2).since());
        Due.is("the later one is greater", 2, Due.walked("s1,1,9;s1,4,9;", 2).since());
        Due.is("alike, behind one that came back", 3, Due.walked("s1,10,0;s1,0,10;s1,5,0;s1,10,0;", 4).since());
        Due.is("the last of eight", 8, Due.walked("s1,0,0;s1,0,0;s1,0,0;s1,0,0;s1,0,0;s1,0,0;s1,0,0;s1,1,0;", 8)
            .since());
        x = Due.walked("s1,5,0;", 1);
        x.count(1, 0);
        Due.is("all are there for sure", NONE, x.since());
        x.count(1, -1);
        Due.is("nothing can be so, too", NONE, x.since());
    }

    private static void judgedBounds() {
        Due.says("JUDGED: the first COUNT behind which nothing can be so; none");
        for (int first = 0; first < 6; first++) {
            StileCounts x = new StileCounts();
            for (int c = 0; c < 6; c++) {
                Due.is("judge behind " + c + " counts", c > first ? first : NONE, x.judge());
                x.count(1, c == first ? -1 : c > first ? 1 : 0);
            }
            Due.is("judge", first, x.judge());
            x.walk();
            Due.is("judge, one walked more", first, x.judge());
        }
        StileCounts x = new StileCounts();
        x.count(1, 0);
        x.walk();
        x.count(1, -1);
        Due.is("each can be", NONE, x.judge());
        // Away for sure; no stretch was walked since.
        x.count(1, 0);
        Due.is("not both", 2, x.judge());
        x.undo();
        x.walk();
        x.count(1, 0);
        Due.is("one came back on the way", NONE, x.judge());
    }

    private static void backwardBounds() {
        Due.says("BACKWARD: above (part = 0), below (1). NONE; BAD; NO: there is no COUNT");
        StileCounts x = new StileCounts();
        Due.is("backward(0)", NO, x.backward(0));
        Due.is("backward(1)", NO, x.backward(1));
        x.walk();
        Due.is("backward(0), one walked", NO, x.backward(0));
        x.undo();
        x.count(1, 0);
        Due.part("backward, ahead of all", 0, 1, x.backward(0), x.backward(1));
        x.count(1, 1);
        Due.part("backward of one that can not be", 0, 1, x.backward(0), x.backward(1));
        x.count(1, 0);
        Due.is("backward(0), nothing can be so without", NONE, x.backward(0));
        Due.is("backward(1), nothing can be so without", NONE, x.backward(1));
        x.undo();
        x.undo();
        x.walk();
        x.count(1, -1);
        Due.part("backward", 1, 10, x.backward(0), x.backward(1));
        // Stretches walked behind the last count stay.
        x.walk();
        Due.part("backward, one walked more", 9, 25, x.backward(0), x.backward(1));
        Due.is("counts", 2, x.many(2));
        x.undo();
        x.undo();
        x.undo();
        x.undo();
        Due.is("backward, undone", NO, x.backward(0));
        for (int part = -9; part <= 9; part++) {
            x.count(1, 0);
            Due.is("backward(" + part + ")", part == 0 ? 0 : part == 1 ? 1 : BAD, x.backward(part));
            x.undo();
            Due.is("backward(" + part + ")", part == 0 || part == 1 ? NO : BAD, x.backward(part));
        }
        for (int n : FAR_OFF) {
            Due.is("backward(" + n + ")", BAD, x.backward(n));
        }
    }

    /** Eight STRETCHES, six COUNTS: nothing runs over. */
    private static void greatestNumbers() {
        Due.says("ODDS of a STATE now, by all that was walked and told");
        StileCounts x = Due.laid("s59,3,1;s58,7,3;s57,1,1;s56,9,3;s55,3,9;s54,1,7;s53,3,3;s52,1,1;"
            + "u0,1,0;u1,5,3;u2,3,0;u3,1,0;h97,89,7;");
        int[] counts = {2, 3, 0, 2, 3, -1, 0, -1};
        for (int sort : counts) {
            x.walk();
            if (sort >= 0) {
                x.count(sort, 0);
            }
        }
        long[][] due = {{3554834633L, 4175755610L}, {2250423L, 3298846931900L}, {1750329L, 329884693190L},
            {11907L, 4175755610L}, {10206L, 37687325L}, {282933L, 835151122L}, {9207009L, 835151122L},
            {360292293L, 8351511220L}, {196078692L, 2087877805L}};
        for (int s = 0; s <= 8; s++) {
            odds(x, s, due[s][0], due[s][1]);
        }
        missing(x, 620920977L, 4175755610L);
        Due.is("since", 8, x.since());
        x = Due.walked("s1,9,0;s1,9,0;s1,9,0;s1,9,0;s1,9,0;s1,9,0;s1,9,0;s1,9,0;u0,5,0;", 8);
        odds(x, 0, 1, 100000000L);
        odds(x, 8, 9, 100000000L);
        missing(x, 99999999L, 100000000L);
    }

    private static void twoKept() {
        Due.says("KEPT are STRETCHES walked, COUNTS: 2 at most");
        StileCounts x = Due.laid(EIGHT);
        Due.is("keep", 1, x.keep());
        x.walk();
        x.count(2, 0);
        Due.is("keep", 2, x.keep());
        x.walk();
        Due.is("a third", FULL, x.keep());
        Due.is("a third, again", FULL, x.keep());
        Due.is("kept", 2, x.many(6));
        Due.is("walked", 2, x.many(1));
        Due.is("can be undone", 3, x.many(5));
        Due.is("back", 1, x.back());
        // The third was not kept instead of the second.
        Due.is("walked", 1, x.many(1));
        Due.is("counts", 1, x.many(2));
        Due.is("keep again", 2, x.keep());
        Due.is("a third", FULL, x.keep());
        Due.is("back", 1, x.back());
        Due.is("back", 0, x.back());
        Due.is("walked", 0, x.many(1));
        Due.is("counts", 0, x.many(2));
        Due.says("KEPT (all that there can be)");
        x = Due.walked(EIGHT, 3);
        for (int c = 0; c < 6; c++) {
            x.count(c % 4, c % 4 - 2);
        }
        x.keep();
        for (int c = 0; c < 6; c++) {
            x.undo();
        }
        x.walk();
        x.count(1, 1);
        Due.is("back", 0, x.back());
        Due.is("counts", 6, x.many(2));
        for (int c = 0; c < 6; c++) {
            Due.is("behind", 3, x.told(c, 0));
            Due.is("sort", c % 4, x.told(c, 1));
            Due.is("d and 2", c % 4, x.told(c, 2));
        }
        Due.is("the seventh", FULL, x.count(0, 0));
    }

    private static void backWithout() {
        Due.says("As KEPT last: how many are left; nothing is UNDONE then. NO");
        StileCounts x = new StileCounts();
        Due.is("back without", NO, x.back());
        x.walk();
        Due.is("back without", NO, x.back());
        Due.is("walked", 1, x.many(1));
        Due.is("can be undone still", 1, x.many(5));
        x.keep();
        x.count(0, 0);
        Due.is("back", 0, x.back());
        Due.is("can be undone", 0, x.many(5));
        Due.is("undo", NO, x.undo());
        Due.is("walked", 1, x.many(1));
        Due.is("back without", NO, x.back());
        x.count(0, 0);
        Due.is("can be undone", 1, x.many(5));
        Due.is("undo", 0, x.undo());
        Due.is("undo", NO, x.undo());
        Due.is("walked", 1, x.many(1));
        Due.is("walk", 2, x.walk());
    }

    private static void manyBounds() {
        Due.says("How many: 0 STRETCHES .. 7 letters of THE TEXT. BAD");
        StileCounts x = Due.walked(EIGHT + "k6;u0,0,60;u1,0,0;u2,1,59;", 8);
        x.count(0, 0);
        x.count(1, 0);
        x.count(2, 0);
        x.keep();
        int[] due = {8, 8, 3, 6, 36 + 60 + 59, 8, 1, 82};
        for (int what = -9; what <= 16; what++) {
            Due.is("many(" + what + ")", what >= 0 && what <= 7 ? due[what] : BAD, x.many(what));
        }
        for (int n : FAR_OFF) {
            Due.is("many(" + n + ")", BAD, x.many(n));
        }
        Due.says("4 minutes walked and counted");
        x = Due.laid("s60,1,1;s60,1,1;s60,1,1;s60,1,1;s60,1,1;s60,1,1;s60,1,1;s60,1,1;u3,1,60;");
        Due.is("none", 0, x.many(4));
        for (int k = 0; k < 8; k++) {
            x.walk();
        }
        for (int c = 0; c < 8; c++) {
            x.count(3, 0);
        }
        Due.is("the most", 14 * 60, x.many(4));
    }
}
