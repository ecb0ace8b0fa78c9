/** Promises 23 to 29: TWO, GROUPS, SIZE, ANSWERED, MARCH, SCHOOLS, a WALK by draws. */
public final class CountersTest {
    private static final int BAD = StileCounts.BAD, NONE = StileCounts.NONE;
    private static final int[] NOT_0_TO_2 = {-1, 3, Integer.MIN_VALUE, Integer.MAX_VALUE};

    public static void main(String[] args) {
        two();
        groups();
        size();
        answered();
        march();
        schools();
        day();
        Due.end();
    }

    private static void two() {
        int[][] wrong = {{0, 1}, {1, 50}, {2, 25}, {9, 50}, {8, 25}, {1, 2}};
        int[][] right = {{1, 1}, {16, 25}, {9, 25}, {4, 25}, {1, 25}, {0, 1}};
        for (int slip = 0; slip <= 5; slip++) {
            StileCounts x = Due.laid("s1,0,0;u0," + slip + ",1;");
            for (int part = 0; part < 2; part++) {
                Due.is("two wrong, slip " + slip, wrong[slip][part], x.two(false, part));
                Due.is("two right, slip " + slip, right[slip][part], x.two(true, part));
            }
            // All being there: it does not matter what was walked and told.
            x.count(1, -1);
            Due.is("two, nothing can be so", right[slip][0], x.two(true, 0));
            for (int part : new int[] {-1, 2, Integer.MIN_VALUE, Integer.MAX_VALUE}) {
                Due.is("two(true, " + part + ")", BAD, x.two(true, part));
                Due.is("two(false, " + part + ")", BAD, x.two(false, part));
            }
        }
    }

    private static void groups() {
        int[][] half = {{1, 2}, {1, 4}, {1, 8}, {1, 16}};
        int[][] fourTenths = {{2, 5}, {4, 25}, {8, 125}, {16, 625}};
        int[][] threeTenths = {{3, 10}, {9, 100}, {27, 1000}, {81, 10000}};
        int[][] none = {{0, 1}, {0, 1}, {0, 1}, {0, 1}};
        int[][][] due = {none, null, null, threeTenths, fourTenths, half};
        for (int slip = 0; slip <= 5; slip++) {
            StileCounts x = Due.laid("s1,0,0;u2," + slip + ",1;u0,2,1;u1,2,1;u3,2,1;");
            for (int g = 2; g <= 5 && due[slip] != null; g++) {
                Due.is("groups(" + g + ", 0), slip " + slip, due[slip][g - 2][0], x.groups(g, 0));
                Due.is("groups(" + g + ", 1), slip " + slip, due[slip][g - 2][1], x.groups(g, 1));
            }
        }
        StileCounts x = new StileCounts();
        for (int g : new int[] {1, 6, 0, -1, Integer.MIN_VALUE, Integer.MAX_VALUE}) {
            Due.is("groups(" + g + ", 0)", BAD, x.groups(g, 0));
        }
        for (int part : new int[] {-1, 2, Integer.MIN_VALUE, Integer.MAX_VALUE}) {
            Due.is("groups(2, " + part + ")", BAD, x.groups(2, part));
        }
    }

    private static void size() {
        StileCounts x = Due.laid("s1,0,0;u2,5,1;");
        int[][] due = {{99, 2}, {50, 2}, {49, 3}, {25, 3}, {24, 4}, {13, 4}, {12, 5}, {7, 5}, {6, NONE}, {0, NONE}};
        for (int[] d : due) {
            Due.is("size(" + d[0] + "), slip 5", d[1], x.size(d[0]));
        }
        x = Due.laid("s1,0,0;u2,1,1;");
        Due.is("size(10), slip 1", 2, x.size(10));
        Due.is("size(9), slip 1", 3, x.size(9));
        Due.is("size(1), slip 1", 3, x.size(1));
        Due.is("size(0), slip 1", NONE, x.size(0));
        x = Due.laid("s1,0,0;u2,0,1;");
        Due.is("size(0), slip 0", 2, x.size(0));
        for (int percent : new int[] {-1, 100, Integer.MIN_VALUE, Integer.MAX_VALUE}) {
            Due.is("size(" + percent + ")", BAD, x.size(percent));
        }
    }

    private static void answered(StileCounts x, int i, int who, int above, int below) {
        Due.is("answered(" + i + ", 0)", who, x.answered(i, 0));
        Due.is("answered(" + i + ", 1)", above, x.answered(i, 1));
        Due.is("answered(" + i + ", 2)", below, x.answered(i, 2));
    }

    private static void answered() {
        StileCounts x = Due.laid("s1,0,0;k6;t0,1,2;t0,2,4;t0,3,4;t0,4,2;t1,2,9;");
        answered(x, 0, 2, 1, 3);
        answered(x, 1, 2, 9, 11);
        answered(x, 2, 1, 9, 13);
        answered(x, 3, 0, 1, 1);
        answered(x, 5, NONE, NONE, NONE);
        answered(Due.laid("s1,0,0;k3;t2,0,3;t2,1,3;"), 2, 0, 1, 2);
        for (int what : NOT_0_TO_2) {
            Due.is("answered(0, " + what + ")", BAD, x.answered(0, what));
            Due.is("answered(5, " + what + ")", BAD, x.answered(5, what));
        }
        for (int i : new int[] {-1, 6, Integer.MIN_VALUE, Integer.MAX_VALUE}) {
            Due.is("answered(" + i + ", 0)", BAD, x.answered(i, 0));
        }
        Due.is("answered(3, 0) of three", BAD, Due.laid("s1,0,0;k3;").answered(3, 0));
    }

    private static void march(String ties, int least, int... with) {
        StileCounts x = Due.laid("s1,0,0;k" + with.length + ";" + ties);
        Due.is("march(-1) of " + ties, least, x.march(-1));
        for (int i = 0; i < with.length; i++) {
            Due.is("march(" + i + ") of " + ties, with[i], x.march(i));
        }
        for (int i : new int[] {-2, with.length, 6, Integer.MIN_VALUE, Integer.MAX_VALUE}) {
            Due.is("march(" + i + ") of " + with.length, BAD, x.march(i));
        }
    }

    private static void march() {
        march("", 0, NONE);
        march("", 0, 1, 0);
        march("t0,1,9;", 9, 1, 0);
        march("", 0, NONE, 2, 1);
        march("t1,2,1;", 0, 1, 0, NONE);
        march("t0,1,3;t1,2,5;", 0, 2, NONE, 0);
        march("t0,1,1;t0,2,1;t1,2,1;", 1, NONE, 2, 1);
        march("t0,1,1;t2,3,1;t0,2,1;t1,3,1;t0,3,1;t1,2,1;", 2, 1, 0, 3, 2);
        march("t0,1,1;t2,3,1;t0,2,1;t1,3,1;t0,3,1;t1,2,0;", 1, 3, 2, 1, 0);
        march("t0,1,9;t0,2,4;t1,2,7;t3,4,2;t0,3,1;", 0, NONE, 3, 4, 1, 2);
        march("t1,2,1;t1,3,1;t1,4,1;t2,3,1;t2,4,1;t3,4,1;", 1, 1, 0, NONE, 4, 3);
        march("", 0, 1, 0, 3, 2, 5, 4);
        march("t0,5,9;t1,4,9;t2,3,9;t0,1,9;", 0, 2, 3, 0, 1, 5, 4);
    }

    private static void schools() {
        int[][] due = {{0, 0, 0, 0}, {0, 5, 0, 0}, {20, 0, 0, 0}, {1, 1, 1, 1}, {1, 2, 1, 2}, {3, 2, 2, 4},
            {20, 20, 20, 39}, {1, 20, 1, 20}, {20, 1, 1, 20}};
        StileCounts x = new StileCounts();
        for (int[] d : due) {
            Due.is("schools(" + d[0] + ", " + d[1] + ", 0)", d[2], x.schools(d[0], d[1], 0));
            Due.is("schools(" + d[0] + ", " + d[1] + ", 1)", d[3], x.schools(d[0], d[1], 1));
        }
        for (int wrong : new int[] {-1, 21, Integer.MIN_VALUE, Integer.MAX_VALUE}) {
            Due.is("schools(" + wrong + ", 1, 0)", BAD, x.schools(wrong, 1, 0));
            Due.is("schools(1, " + wrong + ", 0)", BAD, x.schools(1, wrong, 0));
            Due.is("schools(1, 1, " + wrong + ")", BAD, x.schools(1, 1, wrong));
        }
        Due.is("schools(1, 1, 2)", BAD, x.schools(1, 1, 2));
    }

    private static void day(StileCounts x, int z, int set, int minutes, int losses) {
        Due.is("day(" + z + ", " + set + ", 0)", minutes, x.day(z, set, 0));
        Due.is("day(" + z + ", " + set + ", 1)", losses, x.day(z, set, 1));
    }

    private static void day() {
        StileCounts x = new StileCounts();
        for (int set = 0; set < 8; set++) {
            day(x, 0, set, 0, 0);
            day(x, 1, set, 30, 1);
            day(x, 2, set, (set & 1) == 0 ? 50 : 20, 1);
        }
        // All stretches, whatever was walked and told.
        x.walk();
        x.count(1, -1);
        day(x, 2, 0, 50, 1);
        int[][] bad = {{-1, 0, 0}, {10000, 0, 0}, {0, -1, 0}, {0, 8, 0}, {0, 0, -1}, {0, 0, 2},
            {Integer.MIN_VALUE, 0, 0}, {Integer.MAX_VALUE, 0, 0}, {0, Integer.MIN_VALUE, 0},
            {0, Integer.MAX_VALUE, 0}, {0, 0, Integer.MIN_VALUE}, {0, 0, Integer.MAX_VALUE}};
        for (int[] b : bad) {
            Due.is("day(" + b[0] + ", " + b[1] + ", " + b[2] + ")", BAD, x.day(b[0], b[1], b[2]));
        }
        x = Due.laid("s1,5,5;s2,5,5;s4,5,5;s8,5,5;s16,5,5;s32,5,5;s60,5,5;s60,5,5;");
        int[] sets = {0, 1, 85, 170, 255};
        int[][] first = {{88, 2}, {88, 2}, {96, 3}, {104, 3}, {156, 4}};
        int[][] second = {{97, 3}, {87, 4}, {179, 5}, {97, 4}, {107, 6}};
        int[][] last = {{140, 3}, {140, 3}, {44, 3}, {140, 3}, {120, 5}};
        for (int i = 0; i < sets.length; i++) {
            day(x, 0, sets[i], first[i][0], first[i][1]);
            day(x, 1, sets[i], second[i][0], second[i][1]);
            day(x, 9999, sets[i], last[i][0], last[i][1]);
        }
        Due.is("day(0, 256, 0)", BAD, x.day(0, 256, 0));
        // The first three draws of 1 are 2, 0, 4: as much as R of ten is not less.
        day(Due.laid("s1,3,0;s2,0,0;"), 1, 0, 3, 1);
        day(Due.laid("s1,3,0;s2,0,1;"), 1, 0, 1, 1);
        day(Due.laid("s1,2,0;s2,0,0;"), 1, 0, 0, 0);
        day(Due.laid("s1,3,0;s2,0,0;s4,0,4;"), 1, 0, 7, 1);
        day(Due.laid("s1,3,0;s2,0,0;s4,0,5;"), 1, 0, 3, 1);
    }
}
