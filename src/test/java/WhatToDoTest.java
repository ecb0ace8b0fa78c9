/** Promises 19 to 22: DECIDE, AGAIN, FAR, PLAN. */
public final class WhatToDoTest {
    private static final int BAD = StileCounts.BAD, NONE = StileCounts.NONE;

    public static void main(String[] args) {
        decide();
        again();
        far();
        plan();
        planOnTheWay();
        nothingCanBeSo();
        wrongNumbers();
        Due.end();
    }

    private static StileCounts walked(String text, int stretches) {
        StileCounts x = Due.laid(text);
        for (int k = 0; k < stretches; k++) {
            x.walk();
        }
        return x;
    }

    private static void decided(String text, int which, long above, long below) {
        StileCounts x = walked(text, 1);
        Due.is(text + " decide(0)", which, x.decide(0));
        Due.is(text + " decide(1)", above, x.decide(1));
        Due.is(text + " decide(2)", below, x.decide(2));
    }

    private static void decide() {
        decided("s1,5,0;h10,10,8;", 0, 5, 1);
        decided("s1,5,0;h11,10,8;", 1, 5, 1);
        decided("s1,5,0;h9,10,8;", 0, 9, 2);
        decided("s1,3,0;h7,3,8;", 0, 21, 10);
        decided("s1,3,0;h7,2,8;", 1, 7, 5);
        decided("s1,0,0;h99,99,8;", 0, 0, 1);
        decided("s1,10,0;h99,99,8;", 1, 0, 1);
        decided("s1,10,0;h0,0,8;", 0, 0, 1);
    }

    private static void counted(String text, int which, long above, long below) {
        StileCounts x = walked(text, 1);
        Due.is(text + " again(0)", which, x.again(0));
        Due.is(text + " again(1)", above, x.again(1));
        Due.is(text + " again(2)", below, x.again(2));
    }

    private static void again() {
        counted("s1,5,0;u0,0,1;u1,0,1;u2,0,1;u3,0,1;h10,10,8;", 0, 1, 1);
        counted("s1,5,0;u0,0,5;u1,0,4;u2,0,4;u3,0,4;h10,10,8;", 1, 4, 1);
        counted("s1,5,0;u0,0,5;u1,0,5;u2,0,4;u3,0,3;h10,10,8;", 3, 3, 1);
        // No less than to decide now: none.
        counted("s1,5,0;u0,0,5;u1,0,5;u2,0,5;u3,0,5;h10,10,8;", NONE, 5, 1);
        // A heap that slips by 2 of ten: 1 minute, 2 behind "1 less", 1 behind "none".
        counted("s1,5,0;u0,2,1;u1,0,9;u2,5,9;u3,5,9;h10,20,8;", 0, 4, 1);
        // Pairs that overlook by 3 of ten: 1 minute, 3 tenths of 5 behind "none".
        counted("s1,5,0;u0,5,9;u1,0,9;u2,3,1;u3,4,1;h10,20,8;", 2, 5, 2);
        // Two of ten away: 1 minute, and behind "1 less" and "none" 1.2 and 0.4.
        counted("s1,2,0;u0,2,1;u1,0,9;u2,5,9;u3,5,9;h10,20,8;", NONE, 2, 1);
        counted("s1,2,0;u0,2,0;u1,0,9;u2,5,9;u3,5,9;h10,20,8;", 0, 8, 5);
        // A stile does not slip, whatever is told.
        counted("s1,5,0;u0,5,9;u1,5,1;u2,3,1;u3,4,1;h10,20,8;", 1, 1, 1);
        counted("s1,0,0;u0,0,0;u1,0,0;u2,0,0;u3,0,0;h99,99,8;", NONE, 0, 1);
        // It is asked what a count would be worth, though no more can be told.
        StileCounts x = walked("s1,5,0;u0,0,1;u1,0,1;u2,0,1;u3,5,0;h10,10,8;", 1);
        for (int c = 0; c < 6; c++) {
            x.count(3, 0);
        }
        x.again(0);
        Due.is("counts stay", 6, x.many(2));
    }

    private static void gone(String text, int stretches, int which, long above, long below) {
        StileCounts x = walked(text, stretches);
        Due.is(text + " far(0)", which, x.far(0));
        Due.is(text + " far(1)", above, x.far(1));
        Due.is(text + " far(2)", below, x.far(2));
    }

    private static void far() {
        gone("s10,5,0;s1,5,0;h99,0,10;", 0, 0, 0, 1);
        gone("s10,5,0;s1,5,0;h99,0,10;", 1, 1, 20, 1);
        gone("s10,5,0;s1,5,0;h99,0,10;", 2, 2, 22, 1);
        gone("s10,5,0;s1,5,0;h99,0,8;", 2, 2, 737, 20);
        gone("s60,5,0;s1,5,0;h99,0,8;", 2, 1, 1129, 20);
        gone("s60,5,0;s60,5,0;h99,0,8;", 2, 0, 297, 4);
        gone("s60,5,0;s60,5,0;h99,0,0;", 2, 0, 297, 4);
        // Of several the lowest: to go back costs 2, and finds as much.
        gone("s1,5,0;h40,0,1;", 1, 0, 20, 1);
        gone("s1,5,0;h41,0,1;", 1, 1, 409, 20);
        gone("s1,10,0;s1,0,0;h10,0,10;", 2, 2, 4, 1);
        gone("s1,10,0;s9,0,0;h10,0,10;", 2, 0, 10, 1);
    }

    private static void planned(StileCounts x, int t, int set, long above, long below) {
        Due.is("plan(" + t + ", 0)", set, x.plan(t, 0));
        Due.is("plan(" + t + ", 1)", above, x.plan(t, 1));
        Due.is("plan(" + t + ", 2)", below, x.plan(t, 2));
    }

    private static void plan() {
        StileCounts x = new StileCounts();
        planned(x, 0, 0, 73, 5);
        planned(x, 3, 0, 73, 5);
        planned(x, 4, 1, 25, 2);
        planned(x, 7, 1, 25, 2);
        planned(x, 8, 3, 11, 1);
        planned(x, 99, 3, 11, 1);
        // A count behind the last stretch, or of no use, is left out.
        planned(Due.laid("s10,5,0;"), 99, 0, 5, 1);
        planned(Due.laid("s10,10,10;s10,10,10;u1,0,0;"), 99, 0, 10, 1);
        // Without minutes counts are free.
        planned(Due.laid("s10,5,0;s10,5,0;s10,5,0;u1,0,0;"), 0, 3, 15, 1);
        // Of several the lowest: behind the first or behind the second of three.
        planned(Due.laid("s10,5,5;s10,5,5;s10,5,5;u1,0,7;"), 7, 0, 15, 1);
        planned(Due.laid("s10,5,0;s10,5,0;s10,5,0;u1,0,7;"), 7, 1, 35, 2);
        Due.is("plan of eight", 127, Due.laid("s60,1,0;s60,1,0;s60,1,0;s60,1,0;s60,1,0;s60,1,0;s60,1,0;"
            + "s60,1,0;u1,0,1;").plan(99, 0));
    }

    private static void planOnTheWay() {
        StileCounts x = new StileCounts();
        x.walk();
        planned(x, 0, 0, 63, 5);
        planned(x, 99, 2, 54, 5);
        x.count(1, -1);
        // Away for sure: 0.9 of 30 minutes, 0.45 of 10.
        planned(x, 0, 0, 63, 2);
        planned(x, 4, 2, 27, 1);
        x.walk();
        planned(x, 99, 0, 9, 2);
        x.walk();
        planned(x, 99, 0, 0, 1);
    }

    private static void nothingCanBeSo() {
        StileCounts x = new StileCounts();
        x.count(1, 1);
        for (int what = 0; what < 3; what++) {
            Due.is("decide", NONE, x.decide(what));
            Due.is("again", NONE, x.again(what));
            Due.is("far", NONE, x.far(what));
            Due.is("plan", NONE, x.plan(0, what));
        }
        Due.is("decide(3)", BAD, x.decide(3));
        Due.is("again(3)", BAD, x.again(3));
        Due.is("far(3)", BAD, x.far(3));
        Due.is("plan(0, 3)", BAD, x.plan(0, 3));
        Due.is("plan(100, 0)", BAD, x.plan(100, 0));
    }

    private static void wrongNumbers() {
        StileCounts x = new StileCounts();
        int[] bad = {-1, 3, Integer.MIN_VALUE, Integer.MAX_VALUE};
        for (int what : bad) {
            Due.is("decide(" + what + ")", BAD, x.decide(what));
            Due.is("again(" + what + ")", BAD, x.again(what));
            Due.is("far(" + what + ")", BAD, x.far(what));
            Due.is("plan(0, " + what + ")", BAD, x.plan(0, what));
        }
        int[] times = {-1, 100, Integer.MIN_VALUE, Integer.MAX_VALUE};
        for (int t : times) {
            Due.is("plan(" + t + ", 0)", BAD, x.plan(t, 0));
        }
    }
}
