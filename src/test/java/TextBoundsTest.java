/** The bounds of "1 A TEXT is ..", of LAID and of promises 1 to 9: a test for each sentence that names one. */
public final class TextBoundsTest {
    private static final int BAD = StileCounts.BAD, NO = StileCounts.NO, FULL = StileCounts.FULL,
        NONE = StileCounts.NONE;
    private static final int[] FAR_OFF = {Integer.MIN_VALUE, Integer.MIN_VALUE + 1, -1000, 1000, 65536,
        Integer.MAX_VALUE - 1, Integer.MAX_VALUE};
    private static final String EIGHT = "s1,1,1;s2,1,1;s3,1,1;s4,1,1;s5,1,1;s6,1,1;s7,1,1;s8,1,1;";

    public static void main(String[] args) {
        lettersThatCanBeWritten();
        twoHundredLetters();
        wipedLettersAreGone();
        emptyText();
        itemsOneBehindTheOther();
        eachALetter();
        oneOrTwoFigures();
        partedByCommas();
        semicolonBehindTheLast();
        stretchNumbers();
        eightStretches();
        sortNumbers();
        sortsWithout();
        costNumbers();
        costsWithout();
        friendsNumber();
        friendsWithout();
        tieNumbers();
        tiesWithout();
        firstFault();
        laidWithoutFault();
        laidOfAStretch();
        laidTiesOfFriends();
        laidAtFirst();
        layBegins();
        layForgets();
        refusedLay();
        stretchAsked();
        sortAsked();
        costAsked();
        tieAsked();
        Due.end();
    }

    private static void faultOf(String text, int want) {
        StileCounts x = new StileCounts();
        Due.write(x, text);
        Due.is("fault of " + text, want, x.fault());
        Due.is("fault again of " + text, want, x.fault());
        Due.is("letters of " + text, text.length(), x.many(7));
        if (want != NONE) {
            Due.is("lay of " + text, NO, x.lay());
        }
    }

    /** An ITEM ahead of all, behind a STRETCH, and ahead of another wrong one. */
    private static void item(String text, boolean so) {
        faultOf(text, so ? NONE : 0);
        faultOf("s7,1,1;" + text, so ? NONE : 7);
        faultOf("s17,1,1;k3;" + text + "s0,0,0;", so ? 11 + text.length() : 11);
    }

    /** Every number of one or two figures, and of two figures where one would do. */
    private static void numbers(String ahead, String behind, int least, int most) {
        for (int n = 0; n <= 99; n++) {
            boolean so = n >= least && n <= most;
            item(ahead + n + behind, so);
            if (n < 10) {
                item(ahead + "0" + n + behind, so);
            }
        }
        for (int n : new int[] {100, 101, 110, 255, 256, 999}) {
            item(ahead + n + behind, false);
        }
    }

    private static void lettersThatCanBeWritten() {
        Due.says("A letter (32 to 126, as in ASCII)");
        StileCounts x = new StileCounts();
        int length = 0;
        for (int letter = -150; letter <= 260; letter++) {
            boolean so = letter >= 32 && letter <= 126;
            length += so ? 1 : 0;
            Due.is("write(" + letter + ")", so ? length : BAD, x.write(letter));
        }
        for (int letter : FAR_OFF) {
            Due.is("write(" + letter + ")", BAD, x.write(letter));
        }
        // Numbers whose lower 8 or 16 bits are a letter.
        for (int letter : new int[] {256 + 's', 65536 + 's', Integer.MIN_VALUE + 's', -65536 + 's'}) {
            Due.is("write(" + letter + ")", BAD, x.write(letter));
        }
        Due.is("letters", 95, x.many(7));
    }

    /** A stretch, and behind it as many ITEMS of friends as there is place for. */
    private static String filled(String stretch) {
        StringBuilder text = new StringBuilder(stretch);
        while (text.length() + 3 <= 200) {
            text.append(text.length() % 2 == 0 ? "k5;" : "k6;");
        }
        return text.toString();
    }

    private static void twoHundredLetters() {
        Due.says("A TEXT is letters (200 at most)");
        String whole = filled("s10,1,1;");
        StileCounts x = new StileCounts();
        for (int i = 0; i < 200; i++) {
            Due.is("write", i + 1, x.write(whole.charAt(i)));
        }
        Due.is("the 201st", FULL, x.write(';'));
        Due.is("the 201st, again", FULL, x.write('s'));
        Due.is("letters", 200, x.many(7));
        Due.is("fault", NONE, x.fault());
        Due.is("lay", 1, x.lay());
        Due.is("the last ITEM is read", 6, x.many(3));
        Due.is("wipe", 200, x.wipe());
        Due.is("written again", 1, x.write('s'));

        String shorter = filled("s1,1,1;");
        Due.is("letters", 199, shorter.length());
        faultOf(shorter, NONE);
        faultOf(shorter + "k", 199);
        faultOf(shorter + ";", 199);
        faultOf(whole.substring(0, 199) + ",", 197);
        faultOf(whole.substring(0, 199), 197);
        // The 201st letter would have mended it.
        x = new StileCounts();
        Due.write(x, filled("s1,1,01;").substring(0, 197) + "k05");
        Due.is("fault of the full text", 197, x.fault());
        Due.is("one more", FULL, x.write(';'));
        Due.is("fault still", 197, x.fault());
        Due.is("lay", NO, x.lay());
    }

    private static void wipedLettersAreGone() {
        Due.says("THE TEXT is empty: how long it was");
        StileCounts x = new StileCounts();
        Due.is("wipe of the empty text", 0, x.wipe());
        Due.write(x, "s1,0,0;s2,0,0;");
        Due.is("wipe", 14, x.wipe());
        Due.is("letters", 0, x.many(7));
        Due.is("fault", NONE, x.fault());
        Due.is("lay", NO, x.lay());
        Due.is("wipe again", 0, x.wipe());
        // What stood there once is no part of what is written over it.
        Due.write(x, "s1,0,0");
        Due.is("fault without the ;", 0, x.fault());
        x.wipe();
        Due.write(x, "s1,0");
        Due.is("fault of less", 0, x.fault());
        Due.is("lay of less", NO, x.lay());
        Due.is("laid still", 3, x.many(0));
    }

    private static void emptyText() {
        Due.says("FAULT. NONE (of the empty TEXT)");
        StileCounts x = new StileCounts();
        Due.is("fault", NONE, x.fault());
        Due.is("lay", NO, x.lay());
        Due.is("letters", 0, x.many(7));
        x.walk();
        x.count(0, -1);
        x.keep();
        Due.is("lay", NO, x.lay());
        Due.is("walked", 1, x.many(1));
        Due.is("counts", 1, x.many(2));
        Due.is("kept", 1, x.many(6));
    }

    private static void itemsOneBehindTheOther() {
        Due.says("ITEMS one behind the other");
        faultOf("s1,0,0;u0,1,1;h1,1,1;k2;t0,1,1;s1,0,0;", NONE);
        faultOf("s1,0,0; u0,1,1;", 7);
        faultOf("s1,0,0;,u0,1,1;", 7);
        faultOf("s1,0,0;;u0,1,1;", 7);
        faultOf(" s1,0,0;", 0);
        faultOf("s1,0,0; ", 7);
        faultOf("s1,0,0;u0,1,1 ;", 7);
    }

    private static void eachALetter() {
        Due.says("each a letter");
        for (char letter = 32; letter <= 126; letter++) {
            boolean ofThree = letter == 's' || letter == 'u' || letter == 'h' || letter == 't';
            item(letter + "1,2,3;", ofThree);
            item(letter + "3;", letter == 'k');
            item(letter + "", false);
        }
    }

    private static void oneOrTwoFigures() {
        Due.says("numbers (one or two figures)");
        String[][] parts = {{"s", ",1,1;"}, {"s1,", ",1;"}, {"s1,1,", ";"}, {"u", ",1,1;"}, {"u1,", ",1;"},
            {"u1,1,", ";"}, {"h", ",1,1;"}, {"h1,", ",1;"}, {"h1,1,", ";"}, {"k", ";"}, {"t", ",2,1;"},
            {"t2,", ",1;"}, {"t2,1,", ";"}};
        for (String[] p : parts) {
            item(p[0] + "1" + p[1], true);
            item(p[0] + "01" + p[1], true);
            item(p[0] + p[1], false);
            item(p[0] + "001" + p[1], false);
            item(p[0] + "000" + p[1], false);
            for (String none : new String[] {"-1", "+1", " 1", "1 ", "1.", "/", ":", "a", "1a", "a1", "0x1", "~"}) {
                item(p[0] + none + p[1], false);
            }
        }
    }

    private static void partedByCommas() {
        Due.says("parted by ,");
        for (String letter : new String[] {"s", "u", "h", "t"}) {
            item(letter + "1,2,3;", true);
            item(letter + "1;", false);
            item(letter + "1,2;", false);
            item(letter + "1,2,3,4;", false);
            item(letter + "1,2,3,;", false);
            item(letter + ",1,2,3;", false);
            item(letter + "1,,2,3;", false);
            item(letter + "1;2;3;", false);
            item(letter + "1.2.3;", false);
            item(letter + "1 2 3;", false);
            item(letter + "123;", false);
        }
        item("k1,1;", false);
        item("k1,;", false);
        item("k,1;", false);
    }

    private static void semicolonBehindTheLast() {
        Due.says("and a ; behind the last one");
        for (String whole : new String[] {"s1,2,3;", "u1,2,3;", "h1,2,3;", "t1,2,3;", "k3;", "s60,10,10;"}) {
            for (int length = 1; length < whole.length(); length++) {
                faultOf(whole.substring(0, length), 0);
                faultOf("k4;" + whole.substring(0, length), 3);
            }
            String without = whole.substring(0, whole.length() - 1);
            for (String end : new String[] {",", ":", " ", ".", "s", "k3;"}) {
                faultOf(without + end, 0);
                faultOf("s1,1,1;" + without + end, 7);
            }
        }
    }

    private static void stretchNumbers() {
        Due.says("a STRETCH of M minutes (1 to 60)");
        numbers("s", ",0,0;", 1, 60);
        Due.says("is lost by L (0 to 10) of ten");
        numbers("s1,", ",0;", 0, 10);
        Due.says("comes back by R (0 to 10) of ten");
        numbers("s1,0,", ";", 0, 10);
        StileCounts x = Due.laid("s1,0,0;s60,10,10;s01,00,07;");
        int[][] due = {{1, 0, 0}, {60, 10, 10}, {1, 0, 7}};
        for (int k = 1; k <= 3; k++) {
            for (int what = 0; what < 3; what++) {
                Due.is("stretch(" + k + ", " + what + ")", due[k - 1][what], x.stretch(k, what));
            }
        }
    }

    private static void eightStretches() {
        Due.says("8 at most, 1, 2, ..");
        String text = "";
        for (int k = 1; k <= 8; k++) {
            text += "s" + k + ",1,1;";
            faultOf(text, NONE);
            StileCounts x = Due.laid(text);
            Due.is("stretches", k, x.many(0));
            Due.is("lay again", k, x.lay());
            Due.is("the last one's minutes", k, x.stretch(k, 0));
            Due.is("the next one", BAD, x.stretch(k + 1, 0));
        }
        faultOf(text + "s9,1,1;", 56);
        faultOf(text + "k2;h1,1,1;s9,1,1;", 66);
        faultOf(text + "s9,1,1;s9,1,1;", 56);
        faultOf(text + "k2;", NONE);
    }

    private static void sortNumbers() {
        Due.says("counts of SORT K (0 HEAP, 1 STILE, 2 PAIRS, 3 CALLED)");
        numbers("u", ",1,1;", 0, 3);
        Due.says("slip by U (0 to 5) of ten");
        for (int k = 0; k < 4; k++) {
            numbers("u" + k + ",", ",1;", 0, 5);
        }
        Due.says("take C (0 to 60) minutes");
        for (int k = 0; k < 4; k++) {
            numbers("u" + k + ",1,", ";", 0, 60);
        }
        StileCounts x = Due.laid("s1,0,0;u0,0,60;u1,5,0;u2,5,60;u03,00,00;");
        int[][] due = {{0, 60}, {5, 0}, {5, 60}, {0, 0}};
        for (int k = 0; k < 4; k++) {
            Due.is("U of " + k, due[k][0], x.sort(k, 0));
            Due.is("C of " + k, due[k][1], x.sort(k, 1));
        }
    }

    private static void sortsWithout() {
        Due.says("(1, 2 without; the last one of each)");
        for (int told = 0; told < 4; told++) {
            StileCounts x = Due.laid("u" + told + ",5,9;s1,0,0;u" + told + ",3,7;");
            for (int k = 0; k < 4; k++) {
                Due.is("U of " + k, k == told ? 3 : 1, x.sort(k, 0));
                Due.is("C of " + k, k == told ? 7 : 2, x.sort(k, 1));
            }
        }
    }

    private static void costNumbers() {
        Due.says("to go on costs H (0 to 99)");
        numbers("h", ",1,1;", 0, 99);
        Due.says("to go back B (0 to 99)");
        numbers("h1,", ",1;", 0, 99);
        Due.says("is found by F (0 to 10) of ten");
        numbers("h1,1,", ";", 0, 10);
        int[][] ends = {{0, 0, 0}, {99, 99, 10}, {99, 0, 10}, {0, 99, 0}};
        for (int[] h : ends) {
            StileCounts x = Due.laid("s1,0,0;h" + h[0] + "," + h[1] + "," + h[2] + ";");
            for (int what = 0; what < 3; what++) {
                Due.is("cost(" + what + ")", h[what], x.cost(what));
            }
        }
    }

    private static void costsWithout() {
        Due.says("(60, 10, 8 without; the last one)");
        int[] without = {60, 10, 8};
        int[] last = {7, 0, 9};
        StileCounts x = Due.laid("s1,0,0;");
        StileCounts y = Due.laid("h1,2,3;s1,0,0;h99,98,1;h7,0,9;");
        for (int what = 0; what < 3; what++) {
            Due.is("cost(" + what + ") without", without[what], x.cost(what));
            Due.is("cost(" + what + ") of the last", last[what], y.cost(what));
        }
    }

    private static void friendsNumber() {
        Due.says("there are N FRIENDS, 0 to N less 1 (1 to 6)");
        numbers("k", ";", 1, 6);
        for (int n = 1; n <= 6; n++) {
            StileCounts x = Due.laid("s1,0,0;k" + n + ";");
            Due.is("friends", n, x.many(3));
            Due.is("answered by the last", NONE, x.answered(n - 1, 0));
            Due.is("answered by one more", BAD, x.answered(n, 0));
            Due.is("march of one more", BAD, x.march(n));
            for (int i = 0; i < 6; i++) {
                Due.is("tie(" + i + ", 0) of " + n, i > 0 && i < n ? 0 : BAD, x.tie(i, 0));
            }
        }
    }

    private static void friendsWithout() {
        Due.says("(4 without; the last one)");
        Due.is("friends without", 4, Due.laid("s1,0,0;").many(3));
        Due.is("friends of the last", 2, Due.laid("k6;s1,0,0;k1;k2;").many(3));
        Due.is("friends of the last", 6, Due.laid("k1;s1,0,0;k6;").many(3));
    }

    private static void tieNumbers() {
        Due.says("FRIENDS I and J (0 to 5, unlike)");
        for (int i = 0; i <= 7; i++) {
            for (int j = 0; j <= 7; j++) {
                item("t" + i + "," + j + ",3;", i <= 5 && j <= 5 && i != j);
                item("t0" + i + "," + j + ",0;", i <= 5 && j <= 5 && i != j);
            }
        }
        numbers("t5,", ",1;", 0, 4);
        numbers("t", ",0,1;", 1, 5);
        Due.says("have a TIE of V (0 to 9)");
        numbers("t0,1,", ";", 0, 9);
        numbers("t5,4,", ";", 0, 9);
        for (int i = 0; i < 6; i++) {
            for (int j = 0; j < 6; j++) {
                if (i != j) {
                    StileCounts x = Due.laid("s1,0,0;k6;t" + i + "," + j + ",9;");
                    Due.is("tie(" + i + ", " + j + ")", 9, x.tie(i, j));
                    Due.is("tie(" + j + ", " + i + ")", 9, x.tie(j, i));
                }
            }
        }
    }

    private static void tiesWithout() {
        Due.says("(0 without; the last one of each two)");
        StileCounts x = Due.laid("s1,0,0;k6;t0,5,4;t5,0,7;t1,2,9;t2,1,0;t3,4,1;t3,4,2;");
        for (int i = 0; i < 6; i++) {
            for (int j = 0; j < 6; j++) {
                int due = i == j ? BAD : i + j == 5 && i * j == 0 ? 7 : i + j == 7 && i * j == 12 ? 2 : 0;
                Due.is("tie(" + i + ", " + j + ")", due, x.tie(i, j));
            }
        }
    }

    private static void firstFault() {
        Due.says("FAULT: the place of the first letter of the first ITEM that is not so");
        faultOf("s1,0,0;s1,0,0;k7;t0,0,0;x", 14);
        faultOf("t0,0,0;k7;", 0);
        faultOf("k4;t0,1,99;s0,0,0;", 3);
        faultOf("k4;k4;k4;~", 9);
        faultOf("s1,0,0", 0);
        faultOf("s10,10,10;s10,10,1", 10);
        // A TIE of no FRIEND is no FAULT, though it can not be laid.
        faultOf("k1;t4,5,9;", NONE);
    }

    private static void laidWithoutFault() {
        Due.says("LAID is a TEXT without FAULT");
        StileCounts x = new StileCounts();
        Due.write(x, "s1,0,0;s2,0,0;s3,0,0;s4,0,0;k5");
        Due.is("lay", NO, x.lay());
        Due.is("stretches", 3, x.many(0));
        x.write(';');
        Due.is("lay", 4, x.lay());
        Due.is("friends", 5, x.many(3));
        x.write(' ');
        Due.is("lay with a letter more", NO, x.lay());
        Due.is("stretches", 4, x.many(0));
    }

    private static void laidOfAStretch() {
        Due.says("of a STRETCH at least");
        StileCounts x = new StileCounts();
        Due.write(x, "k2;h1,1,1;u0,1,1;t0,1,1;");
        Due.is("fault", NONE, x.fault());
        Due.is("lay", NO, x.lay());
        Due.is("friends as they were", 4, x.many(3));
        Due.is("cost as it was", 60, x.cost(0));
        Due.write(x, "s60,0,0;");
        Due.is("lay", 1, x.lay());
        Due.is("friends", 2, x.many(3));
        Due.is("cost", 1, x.cost(0));
    }

    private static void laidTiesOfFriends() {
        Due.says("all TIES but 0 being of FRIENDS there are (NO else)");
        for (int n = 1; n <= 6; n++) {
            for (int i = 0; i < 6; i++) {
                for (int j = 0; j < 6; j++) {
                    for (int v = 0; i != j && v < 2; v++) {
                        boolean so = v == 0 || i < n && j < n;
                        for (int order = 0; order < 2; order++) {
                            String tie = "t" + i + "," + j + "," + v + ";";
                            String text = "s1,0,0;" + (order == 0 ? tie + "k" + n + ";" : "k" + n + ";" + tie);
                            StileCounts x = new StileCounts();
                            Due.write(x, text);
                            Due.is("fault of " + text, NONE, x.fault());
                            Due.is("lay of " + text, so ? 1 : NO, x.lay());
                            Due.is("friends, " + text, so ? n : 4, x.many(3));
                        }
                    }
                }
            }
        }
        Due.is("a TIE that is 0 in the end", 1, Due.laid("s1,0,0;t4,5,9;t5,4,0;").many(0));
        Due.is("four FRIENDS without", 1, Due.laid("s1,0,0;t2,3,9;").many(0));
        StileCounts x = new StileCounts();
        Due.write(x, "s1,0,0;t3,4,9;");
        Due.is("lay, four FRIENDS without", NO, x.lay());
    }

    private static void laidAtFirst() {
        Due.says("at first s20,1,2;s30,3,1;s10,0,5;u0,2,1;u1,0,4;u2,1,2;u3,3,1;t0,1,5;t2,3,2;t0,2,1;");
        StileCounts x = new StileCounts();
        StileCounts y = Due.laid("s20,1,2;s30,3,1;s10,0,5;u0,2,1;u1,0,4;u2,1,2;u3,3,1;t0,1,5;t2,3,2;t0,2,1;");
        for (int k = 0; k <= 4; k++) {
            for (int what = 0; what < 3; what++) {
                Due.is("stretch(" + k + ", " + what + ")", y.stretch(k, what), x.stretch(k, what));
                Due.is("sort(" + k + ", " + what + ")", y.sort(k, what), x.sort(k, what));
                Due.is("cost(" + what + ")", y.cost(what), x.cost(what));
            }
            for (int j = 0; j <= 4; j++) {
                Due.is("tie(" + k + ", " + j + ")", y.tie(k, j), x.tie(k, j));
            }
        }
        Due.says("StileCounts(): As told");
        int[] many = {3, 0, 0, 4, 0, 0, 0, 0};
        for (int what = 0; what < 8; what++) {
            Due.is("many(" + what + ")", many[what], x.many(what));
        }
        Due.is("told", BAD, x.told(0, 0));
        Due.is("undo", NO, x.undo());
        Due.is("back", NO, x.back());
        // Objects have nothing in common.
        y.walk();
        Due.rewrite(y, "s1,0,0;");
        y.lay();
        Due.is("stretches of another object", 3, x.many(0));
        Due.is("walked of another object", 0, x.many(1));
    }

    private static void layBegins() {
        Due.says("LAID: how many STRETCHES; none walked, no COUNTS, nothing UNDONE, KEPT");
        StileCounts x = Due.walked(EIGHT, 8);
        for (int c = 0; c < 6; c++) {
            x.count(0, 0);
        }
        x.keep();
        x.keep();
        Due.is("lay", 8, x.lay());
        int[] many = {8, 0, 0, 4, 0, 0, 0, EIGHT.length()};
        for (int what = 0; what < 8; what++) {
            Due.is("many(" + what + ")", many[what], x.many(what));
        }
        Due.is("undo", NO, x.undo());
        Due.is("back", NO, x.back());
        Due.is("told", BAD, x.told(0, 0));
        Due.is("judge", NONE, x.judge());
        Due.is("odds", 1, x.odds(0, 0));
        Due.is("backward", NO, x.backward(0));
        Due.is("walk", 1, x.walk());
        Due.is("count", 1, x.count(0, 0));
        Due.is("keep", 1, x.keep());
        Due.is("keep", 2, x.keep());
    }

    private static void layForgets() {
        Due.says("(without: what a TEXT does not tell, whatever an earlier one told)");
        StileCounts x = new StileCounts();
        // Twice and more, so that each place where a TEXT may be held has held another one.
        for (int i = 0; i < 3; i++) {
            Due.rewrite(x, "s5,5,5;s6,6,6;u0,5,60;u1,4,59;u2,3,58;u3,2,57;h1,2,3;k6;t0,5,9;t5,1,8;t2,3,7;t3,0,6;");
            Due.is("lay of much", 2, x.lay());
            Due.rewrite(x, "s1,0,0;k6;");
            Due.is("lay of little", 1, x.lay());
            for (int k = 0; k < 4; k++) {
                Due.is("U of " + k, 1, x.sort(k, 0));
                Due.is("C of " + k, 2, x.sort(k, 1));
            }
            Due.is("H", 60, x.cost(0));
            Due.is("B", 10, x.cost(1));
            Due.is("F", 8, x.cost(2));
            Due.is("stretch(2, 0)", BAD, x.stretch(2, 0));
            for (int a = 0; a < 6; a++) {
                Due.is("answered(" + a + ", 0)", NONE, x.answered(a, 0));
                for (int b = 0; b < 6; b++) {
                    Due.is("tie(" + a + ", " + b + ")", a == b ? BAD : 0, x.tie(a, b));
                }
            }
        }
    }

    private static void refusedLay() {
        Due.says("NO: nothing changes then (lay, fault)");
        String[] refused = {"", "k2;", "s9,9,9;k2;h1,1,1;u0,5,5;t4,5,1;", "s9,9,9;k2;h1,1,1;u0,5,5;t0,1,9;s0,0,0;",
            EIGHT + "s9,9,9;", "x"};
        for (String text : refused) {
            StileCounts x = new StileCounts();
            x.walk();
            x.count(2, 0);
            x.keep();
            Due.write(x, text);
            for (int i = 0; i < 3; i++) {
                x.fault();
                Due.is("lay of " + text, NO, x.lay());
            }
            int[] many = {3, 1, 1, 4, 22, 2, 1, text.length()};
            for (int what = 0; what < 8; what++) {
                Due.is("many(" + what + ") behind " + text, many[what], x.many(what));
            }
            Due.is("stretch", 20, x.stretch(1, 0));
            Due.is("sort", 2, x.sort(0, 0));
            Due.is("cost", 60, x.cost(0));
            Due.is("tie", 5, x.tie(0, 1));
            Due.part("missing", 1, 91, x.missing(0), x.missing(1));
            Due.is("undo", 1, x.undo());
            Due.is("back", 0, x.back());
            Due.is("counts", 1, x.many(2));
        }
    }

    private static void stretchAsked() {
        Due.says("Of STRETCH k (1 ..): M (what = 0), L (1), R (2). BAD");
        for (String text : new String[] {"s7,8,9;", EIGHT}) {
            StileCounts x = Due.laid(text);
            int last = x.many(0);
            for (int k = -3; k <= 12; k++) {
                for (int what = -3; what <= 6; what++) {
                    boolean so = k >= 1 && k <= last && what >= 0 && what <= 2;
                    Due.is("stretch(" + k + ", " + what + ") of " + last, so ? 1 : 0,
                        x.stretch(k, what) != BAD ? 1 : 0);
                }
            }
            for (int n : FAR_OFF) {
                Due.is("stretch(" + n + ", 0)", BAD, x.stretch(n, 0));
                Due.is("stretch(1, " + n + ")", BAD, x.stretch(1, n));
            }
        }
    }

    private static void sortAsked() {
        Due.says("Of a SORT: U (what = 0), C (1). BAD");
        StileCounts x = new StileCounts();
        int[][] due = {{2, 1}, {0, 4}, {1, 2}, {3, 1}};
        for (int k = -3; k <= 9; k++) {
            for (int what = -3; what <= 5; what++) {
                boolean so = k >= 0 && k <= 3 && what >= 0 && what <= 1;
                Due.is("sort(" + k + ", " + what + ")", so ? due[k][what] : BAD, x.sort(k, what));
            }
        }
        for (int n : FAR_OFF) {
            Due.is("sort(" + n + ", 0)", BAD, x.sort(n, 0));
            Due.is("sort(0, " + n + ")", BAD, x.sort(0, n));
        }
    }

    private static void costAsked() {
        Due.says("H (what = 0), B (1), F (2). BAD");
        StileCounts x = new StileCounts();
        int[] due = {60, 10, 8};
        for (int what = -9; what <= 9; what++) {
            Due.is("cost(" + what + ")", what >= 0 && what <= 2 ? due[what] : BAD, x.cost(what));
        }
        for (int n : FAR_OFF) {
            Due.is("cost(" + n + ")", BAD, x.cost(n));
        }
    }

    private static void tieAsked() {
        Due.says("A TIE. BAD (alike, too)");
        for (int n = 1; n <= 6; n++) {
            StileCounts x = Due.laid("s1,0,0;k" + n + ";" + (n > 1 ? "t0," + (n - 1) + ",3;" : ""));
            for (int i = -2; i <= 8; i++) {
                for (int j = -2; j <= 8; j++) {
                    boolean so = i >= 0 && i < n && j >= 0 && j < n && i != j;
                    boolean tied = Math.min(i, j) == 0 && Math.max(i, j) == n - 1;
                    Due.is("tie(" + i + ", " + j + ") of " + n, so ? tied ? 3 : 0 : BAD, x.tie(i, j));
                }
            }
            for (int f : FAR_OFF) {
                Due.is("tie(" + f + ", 0)", BAD, x.tie(f, 0));
                Due.is("tie(0, " + f + ")", BAD, x.tie(0, f));
                Due.is("tie(" + f + ", " + f + ")", BAD, x.tie(f, f));
            }
        }
    }
}
