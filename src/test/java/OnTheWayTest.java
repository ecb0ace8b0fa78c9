/** Promises 10 to 13, 30 to 32: stretches walked, counts told, undone, kept; how many. */
public final class OnTheWayTest {
    private static final int BAD = StileCounts.BAD, NO = StileCounts.NO, FULL = StileCounts.FULL;
    private static final String EIGHT =
        "s1,1,1;s2,1,1;s3,1,1;s4,1,1;s5,1,1;s6,1,1;s7,1,1;s8,1,1;u0,1,10;u1,1,20;u2,1,30;u3,1,40;";

    public static void main(String[] args) {
        walking();
        counting();
        undoing();
        undoingTheLastEight();
        keeping();
        keptAreCopies();
        minutes();
        many();
        Due.end();
    }

    private static void walking() {
        StileCounts x = new StileCounts();
        for (int k = 1; k <= 3; k++) {
            Due.is("walk", k, x.walk());
            Due.is("walked", k, x.many(1));
        }
        Due.is("walk behind the last one", NO, x.walk());
        Due.is("walked", 3, x.many(1));
        Due.is("can be undone", 3, x.many(5));
    }

    private static void counting() {
        StileCounts x = new StileCounts();
        int[][] bad = {{-1, 0}, {4, 0}, {0, -3}, {0, 2}, {Integer.MIN_VALUE, 0}, {0, Integer.MAX_VALUE}};
        for (int[] b : bad) {
            Due.is("count(" + b[0] + ", " + b[1] + ")", BAD, x.count(b[0], b[1]));
        }
        Due.is("counts", 0, x.many(2));
        Due.is("told(0, 0)", BAD, x.told(0, 0));
        int[][] counts = {{0, -2, 0}, {3, 1, 0}, {1, 0, 1}, {2, -1, 2}, {2, 0, 2}, {0, 1, 3}};
        int walked = 0;
        for (int c = 0; c < 6; c++) {
            while (walked < counts[c][2]) {
                walked = x.walk();
            }
            Due.is("count", c + 1, x.count(counts[c][0], counts[c][1]));
        }
        Due.is("the seventh count", FULL, x.count(0, 0));
        Due.is("the seventh count, no sort", BAD, x.count(4, 0));
        Due.is("the seventh count, tells too much", BAD, x.count(0, 2));
        for (int c = 0; c < 6; c++) {
            Due.is("told(" + c + ", 0)", counts[c][2], x.told(c, 0));
            Due.is("told(" + c + ", 1)", counts[c][0], x.told(c, 1));
            Due.is("told(" + c + ", 2)", counts[c][1] + 2, x.told(c, 2));
            Due.is("told(" + c + ", 3)", BAD, x.told(c, 3));
            Due.is("told(" + c + ", -1)", BAD, x.told(c, -1));
        }
        Due.is("told(6, 0)", BAD, x.told(6, 0));
        Due.is("told(-1, 0)", BAD, x.told(-1, 0));
        Due.is("told(MAX, 0)", BAD, x.told(Integer.MAX_VALUE, 0));
    }

    private static void undoing() {
        StileCounts x = new StileCounts();
        Due.is("undo of nothing", NO, x.undo());
        x.count(0, 0);
        x.walk();
        x.walk();
        x.count(1, 0);
        x.count(2, -1);
        x.walk();
        // Latest first: walk, count, count, walk, walk, count.
        int[][] left = {{2, 3}, {2, 2}, {2, 1}, {1, 1}, {0, 1}, {0, 0}};
        for (int i = 0; i < 6; i++) {
            Due.is("undo " + i, 5 - i, x.undo());
            Due.is("walked", left[i][0], x.many(1));
            Due.is("counts", left[i][1], x.many(2));
            Due.is("can be undone", 5 - i, x.many(5));
        }
        Due.is("undo of nothing", NO, x.undo());
        Due.is("walk behind undo", 1, x.walk());
        Due.is("count behind undo", 1, x.count(3, 1));
        Due.is("behind which", 1, x.told(0, 0));
        Due.is("told", 3, x.told(0, 2));
        Due.is("undo", 1, x.undo());
        Due.is("told no more", BAD, x.told(0, 0));
    }

    private static void undoingTheLastEight() {
        StileCounts x = Due.laid(EIGHT);
        for (int k = 1; k <= 8; k++) {
            x.walk();
            Due.is("can be undone", k, x.many(5));
        }
        x.count(0, 0);
        Due.is("eight at most", 8, x.many(5));
        x.count(0, 0);
        Due.is("eight at most", 8, x.many(5));
        for (int i = 7; i >= 0; i--) {
            Due.is("undo", i, x.undo());
        }
        Due.is("undo of the ninth", NO, x.undo());
        Due.is("walked", 2, x.many(1));
        Due.is("counts", 0, x.many(2));
        Due.is("walk on", 3, x.walk());
        Due.is("one can be undone", 1, x.many(5));
        Due.is("undo", 0, x.undo());
        Due.is("undo of the ninth", NO, x.undo());
    }

    private static void keeping() {
        StileCounts x = new StileCounts();
        Due.is("back without", NO, x.back());
        x.walk();
        x.count(0, -1);
        Due.is("keep", 1, x.keep());
        Due.is("keeping leaves what can be undone", 2, x.many(5));
        x.walk();
        x.count(1, 0);
        Due.is("keep", 2, x.keep());
        Due.is("keep a third", FULL, x.keep());
        Due.is("kept", 2, x.many(6));
        x.walk();
        Due.is("back", 1, x.back());
        Due.is("walked", 2, x.many(1));
        Due.is("counts", 2, x.many(2));
        Due.is("nothing is undone", 0, x.many(5));
        Due.is("undo", NO, x.undo());
        Due.is("walked still", 2, x.many(1));
        Due.is("told", 1, x.told(1, 1));
        Due.is("back", 0, x.back());
        Due.is("walked", 1, x.many(1));
        Due.is("counts", 1, x.many(2));
        Due.is("told", 1, x.told(0, 2));
        Due.is("back once more", NO, x.back());
        Due.is("walked still", 1, x.many(1));
        x.walk();
        x.count(3, 0);
        Due.is("undo behind back", 1, x.undo());
        Due.is("undo behind back", 0, x.undo());
        Due.is("undo what was kept", NO, x.undo());
        Due.is("walked", 1, x.many(1));
        Due.is("counts", 1, x.many(2));
        Due.is("odds as kept", 4, x.odds(0, 1));
    }

    /** What happens later does not change what was kept. */
    private static void keptAreCopies() {
        StileCounts x = new StileCounts();
        x.count(0, -1);
        x.keep();
        x.undo();
        x.count(3, 1);
        x.keep();
        x.undo();
        x.count(2, -2);
        Due.is("back", 1, x.back());
        Due.is("sort", 3, x.told(0, 1));
        Due.is("tells", 3, x.told(0, 2));
        Due.is("back", 0, x.back());
        Due.is("sort", 0, x.told(0, 1));
        Due.is("tells", 1, x.told(0, 2));
        Due.is("behind", 0, x.told(0, 0));
    }

    private static void minutes() {
        StileCounts x = Due.laid(EIGHT);
        int minutes = 0;
        for (int k = 1; k <= 8; k++) {
            x.walk();
            minutes += k;
            Due.is("minutes walked", minutes, x.many(4));
        }
        for (int k = 0; k < 4; k++) {
            x.count(k, 0);
            minutes += 10 * (k + 1);
            Due.is("minutes walked and counted", minutes, x.many(4));
        }
        x.undo();
        Due.is("minutes", minutes - 40, x.many(4));
    }

    private static void many() {
        StileCounts x = Due.laid(EIGHT);
        x.walk();
        x.count(2, 0);
        x.count(1, 0);
        x.keep();
        x.undo();
        int[] due = {8, 1, 1, 4, 31, 2, 1, EIGHT.length()};
        for (int what = 0; what < 8; what++) {
            Due.is("many(" + what + ")", due[what], x.many(what));
        }
        int[] bad = {-1, 8, Integer.MIN_VALUE, Integer.MAX_VALUE};
        for (int what : bad) {
            Due.is("many(" + what + ")", BAD, x.many(what));
        }
    }
}
