/** Promises 1 to 9: a new object, THE TEXT, FAULT, LAID. */
public final class WalksTest {
    private static final int BAD = StileCounts.BAD, NO = StileCounts.NO, FULL = StileCounts.FULL,
        NONE = StileCounts.NONE;

    public static void main(String[] args) {
        newObject();
        writeAndWipe();
        faults();
        lay();
        layingStartsAgain();
        values();
        ties();
        Due.end();
    }

    private static void newObject() {
        StileCounts x = new StileCounts();
        int[][] stretches = {{20, 1, 2}, {30, 3, 1}, {10, 0, 5}};
        for (int k = 1; k <= 3; k++) {
            for (int what = 0; what < 3; what++) {
                Due.is("new: stretch", stretches[k - 1][what], x.stretch(k, what));
            }
        }
        int[][] sorts = {{2, 1}, {0, 4}, {1, 2}, {3, 1}};
        for (int k = 0; k < 4; k++) {
            Due.is("new: slips of " + k, sorts[k][0], x.sort(k, 0));
            Due.is("new: minutes of " + k, sorts[k][1], x.sort(k, 1));
        }
        Due.is("new: cost on", 60, x.cost(0));
        Due.is("new: cost back", 10, x.cost(1));
        Due.is("new: found", 8, x.cost(2));
        int[][] ties = {{0, 5, 1, 0}, {5, 0, 0, 0}, {1, 0, 0, 2}, {0, 0, 2, 0}};
        for (int i = 0; i < 4; i++) {
            for (int j = 0; j < 4; j++) {
                Due.is("new: tie " + i + " " + j, i == j ? BAD : ties[i][j], x.tie(i, j));
            }
        }
        int[] many = {3, 0, 0, 4, 0, 0, 0, 0, BAD};
        for (int what = 0; what < many.length; what++) {
            Due.is("new: many(" + what + ")", many[what], x.many(what));
        }
        Due.is("new: fault", NONE, x.fault());
        Due.is("new: lay of the empty text", NO, x.lay());
        Due.is("new: still three stretches", 3, x.many(0));
    }

    private static void writeAndWipe() {
        StileCounts x = new StileCounts();
        int[] wrong = {31, 127, -1, 0, 128, 255, 65536 + 's', Integer.MIN_VALUE, Integer.MAX_VALUE};
        for (int letter : wrong) {
            Due.is("write(" + letter + ")", BAD, x.write(letter));
        }
        Due.is("nothing written", 0, x.many(7));
        Due.is("write(32)", 1, x.write(32));
        Due.is("write(126)", 2, x.write(126));
        for (int i = 3; i <= 200; i++) {
            Due.is("write, the " + i + "th", i, x.write('s'));
        }
        Due.is("write, the 201st", FULL, x.write('s'));
        Due.is("write, the 201st, no letter", BAD, x.write(31));
        Due.is("letters", 200, x.many(7));
        Due.is("wipe", 200, x.wipe());
        Due.is("wipe again", 0, x.wipe());
        Due.is("letters, wiped", 0, x.many(7));
        Due.is("write behind wipe", 1, x.write('s'));
    }

    private static void fault(String text, int want) {
        StileCounts x = new StileCounts();
        Due.write(x, text);
        Due.is("fault of " + text, want, x.fault());
        if (want != NONE) {
            Due.is("lay of " + text, NO, x.lay());
        }
        Due.is("letters of " + text, text.length(), x.many(7));
    }

    private static void faults() {
        String[] fine = {
            "", "s1,0,0;", "s60,10,10;", "s01,00,09;", "u0,0,0;", "u3,5,60;", "u03,05,00;", "h0,0,0;", "h99,99,10;",
            "k1;", "k6;", "k06;", "t0,5,9;", "t5,0,0;", "t00,01,09;", "k1;k6;k3;", "t4,5,9;",
        };
        for (String item : fine) {
            fault(item, NONE);
            fault("s7,1,1;" + item, NONE);
        }
        String[] wrong = {
            "s", "s1", "s1,", "s1,0", "s1,0,", "s1,0,0", "s0,0,0;", "s61,0,0;", "s1,11,0;", "s1,0,11;", "s1,0;",
            "s1,0,0,0;", "s1,0,0,", "s,0,0;", "s1,,0;", "s1,0,;", "s001,0,0;", "s1,000,0;", "s1;0;0;", "s-1,0,0;",
            "s 1,0,0;", "s1,0,0 ;", " s1,0,0;", "S1,0,0;", ";", ",", "1", "x1,0,0;", "ss1,0,0;", "s1.0,0;",
            "u4,0,0;", "u0,6,0;", "u0,0,61;", "u0,0;", "u0;", "u0,0,0,0;", "h100,0,0;", "h0,0,11;", "h0,0;",
            "h0,0,0", "k0;", "k7;", "k;", "k1", "k1,1;", "k001;", "t0,0,1;", "t5,5,0;", "t6,0,1;", "t0,6,1;",
            "t0,1,10;", "t0,1;", "t0,1,1", "s1,0,:;", "s1,0,/;", "~", " ",
        };
        for (String item : wrong) {
            fault(item, 0);
            fault("s7,1,1;" + item, 7);
            fault("s7,1,1;k3;" + item, 10);
            fault("s7,1,1;k3;" + item + "s0,0,0;", 10);
        }
        String eight = "s1,1,1;s1,1,1;s1,1,1;s1,1,1;s1,1,1;s1,1,1;s1,1,1;s1,1,1;";
        fault(eight, NONE);
        fault(eight + "k5;", NONE);
        fault(eight + "s1,1,1;", 56);
        fault(eight + "k5;s1,1,1;", 59);
        StringBuilder full = new StringBuilder("s1,1,1;s1,1,1;");
        while (full.length() < 200) {
            full.append("k3;");
        }
        Due.is("a full text", 200, full.length());
        fault(full.toString(), NONE);
        fault(full.substring(0, 199) + ",", 197);
        fault(full.substring(0, 199), 197);
    }

    private static void lay() {
        StileCounts x = new StileCounts();
        String[] no = {"k4;", "u0,1,1;h1,1,1;", "s1,0,0;t0,4,1;", "s1,0,0;k1;t0,1,1;", "s1,0,0;t4,5,9;",
            "s1,0,0;k6;t4,5,9;k5;", "s1,0,0;t1,0,2;k1;", "s1,0,0;t5,0,0;t5,1,1;"};
        for (String text : no) {
            Due.rewrite(x, text);
            Due.is("fault of " + text, NONE, x.fault());
            Due.is("lay of " + text, NO, x.lay());
            Due.is("nothing changed by " + text, 3, x.many(0));
            Due.is("nothing changed by " + text, 5, x.tie(1, 0));
        }
        String[] yes = {"s1,0,0;", "s1,0,0;t0,4,0;", "s1,0,0;t4,5,9;t5,4,0;", "s1,0,0;t4,5,9;k6;", "k1;s1,0,0;",
            "s1,0,0;k3;t1,2,9;", "s1,0,0;t0,4,1;k5;"};
        for (String text : yes) {
            Due.rewrite(x, text);
            Due.is("lay of " + text, 1, x.lay());
            Due.is("the text stays", text.length(), x.many(7));
        }
        Due.rewrite(x, "s1,0,0;s2,0,0;k2;s3,0,0;");
        Due.is("lay of three", 3, x.lay());
        Due.is("lay again", 3, x.lay());
    }

    private static void layingStartsAgain() {
        StileCounts x = new StileCounts();
        x.walk();
        x.count(0, 0);
        x.keep();
        Due.write(x, "s9,1,1;s8,1,1");
        Due.is("lay with a fault", NO, x.lay());
        Due.is("walked", 1, x.many(1));
        Due.is("counts", 1, x.many(2));
        Due.is("can be undone", 2, x.many(5));
        Due.is("kept", 1, x.many(6));
        x.write(';');
        Due.is("lay", 2, x.lay());
        int[] many = {2, 0, 0, 4, 0, 0, 0, 14};
        for (int what = 0; what < many.length; what++) {
            Due.is("laid: many(" + what + ")", many[what], x.many(what));
        }
        Due.is("undo", NO, x.undo());
        Due.is("back", NO, x.back());
        Due.is("told", BAD, x.told(0, 0));
        Due.is("odds", 1, x.odds(0, 1));
        Due.is("walk", 1, x.walk());
    }

    private static void values() {
        StileCounts x = Due.laid("s5,6,7;u2,5,60;u0,3,4;u2,0,9;h1,2,3;s08,9,10;h7,8,9;k2;k5;");
        int[][] stretches = {{5, 6, 7}, {8, 9, 10}};
        for (int k = 1; k <= 2; k++) {
            for (int what = 0; what < 3; what++) {
                Due.is("stretch", stretches[k - 1][what], x.stretch(k, what));
            }
        }
        int[] odd = {-1, 3, 4, Integer.MAX_VALUE, Integer.MIN_VALUE};
        for (int what : odd) {
            Due.is("stretch(1, " + what + ")", BAD, x.stretch(1, what));
            Due.is("stretch(" + what + ", 0)", BAD, x.stretch(what, 0));
            Due.is("cost(" + what + ")", BAD, x.cost(what));
            Due.is("sort(0, " + what + ")", BAD, x.sort(0, what));
        }
        Due.is("stretch(0, 0)", BAD, x.stretch(0, 0));
        int[][] sorts = {{3, 4}, {1, 2}, {0, 9}, {1, 2}};
        for (int k = 0; k < 4; k++) {
            Due.is("slips of " + k, sorts[k][0], x.sort(k, 0));
            Due.is("minutes of " + k, sorts[k][1], x.sort(k, 1));
        }
        Due.is("sort(0, 2)", BAD, x.sort(0, 2));
        Due.is("sort(4, 0)", BAD, x.sort(4, 0));
        Due.is("sort(-1, 0)", BAD, x.sort(-1, 0));
        Due.is("sort(MIN, 0)", BAD, x.sort(Integer.MIN_VALUE, 0));
        Due.is("cost(0)", 7, x.cost(0));
        Due.is("cost(1)", 8, x.cost(1));
        Due.is("cost(2)", 9, x.cost(2));
        Due.is("friends", 5, x.many(3));

        // What an earlier text told is forgotten.
        Due.rewrite(x, "s1,0,0;");
        x.lay();
        Due.is("slips without", 1, x.sort(0, 0));
        Due.is("minutes without", 2, x.sort(2, 1));
        Due.is("H without", 60, x.cost(0));
        Due.is("B without", 10, x.cost(1));
        Due.is("F without", 8, x.cost(2));
        Due.is("friends without", 4, x.many(3));
        Due.is("stretch(2, 0)", BAD, x.stretch(2, 0));
    }

    private static void ties() {
        StileCounts x = Due.laid("s1,0,0;k5;t0,1,3;t1,0,7;t2,4,9;t4,2,0;t4,3,1;");
        Due.is("tie(0, 1)", 7, x.tie(0, 1));
        Due.is("tie(1, 0)", 7, x.tie(1, 0));
        Due.is("tie(2, 4)", 0, x.tie(2, 4));
        Due.is("tie(3, 4)", 1, x.tie(3, 4));
        Due.is("tie(4, 4)", BAD, x.tie(4, 4));
        Due.is("tie(4, 5)", BAD, x.tie(4, 5));
        Due.is("tie(5, 4)", BAD, x.tie(5, 4));
        Due.is("tie(-1, 0)", BAD, x.tie(-1, 0));
        Due.is("tie(0, -1)", BAD, x.tie(0, -1));
        Due.is("tie(MAX, MIN)", BAD, x.tie(Integer.MAX_VALUE, Integer.MIN_VALUE));
    }
}
