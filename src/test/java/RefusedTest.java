import java.util.ArrayList;
import java.util.List;
import java.util.function.ToLongFunction;

/**
 * "Of several the first; nothing changes then": each refused call, and each question, is put to one of two objects
 * that went the same way; whatever is asked and done later, both answer alike.
 */
public final class RefusedTest {
    private static final int BAD = StileCounts.BAD, NO = StileCounts.NO, FULL = StileCounts.FULL,
        NONE = StileCounts.NONE;
    private static final String LAID = "s5,5,5;s6,1,2;s7,2,9;u0,2,1;h50,20,9;k5;t0,4,3;t1,2,6;t2,3,6;";

    public static void main(String[] args) {
        ofSeveralTheFirst();
        wrongNumbersAnywhere();
        nothingToDo();
        allIsFull();
        nothingCanBeSo();
        unfitTexts();
        questions();
        Due.end();
    }

    /** How an object came where it is. */
    private interface Course {
        StileCounts go();
    }

    private static StileCounts onTheWay() {
        StileCounts x = Due.laid(LAID);
        x.count(1, 0);
        x.walk();
        x.keep();
        x.count(0, -1);
        x.walk();
        x.count(3, 0);
        x.undo();
        Due.rewrite(x, "s9,9,9;k6;t0,5,9");
        return x;
    }

    private static StileCounts fullText() {
        StileCounts x = new StileCounts();
        Due.write(x, "s10,1,1;" + "k3;".repeat(63) + "k02");
        return x;
    }

    private static StileCounts fullWay() {
        StileCounts x = Due.laid(LAID);
        for (int k = 1; k <= 3; k++) {
            x.walk();
            x.count(0, 0);
            x.count(2, 0);
            if (k < 3) {
                x.keep();
            }
        }
        return x;
    }

    private static StileCounts undoneAll() {
        StileCounts x = Due.laid(LAID);
        x.walk();
        x.count(0, 0);
        x.undo();
        x.undo();
        return x;
    }

    private static StileCounts gotBack() {
        StileCounts x = Due.laid(LAID);
        x.walk();
        x.count(2, 0);
        x.keep();
        x.walk();
        x.back();
        return x;
    }

    private static StileCounts impossible() {
        StileCounts x = Due.laid(LAID);
        x.walk();
        x.keep();
        x.count(1, 1);
        return x;
    }

    /** All that can be asked, and what comes of all that can be done later; some 300 of an object's 512 calls. */
    private static List<Long> future(StileCounts x) {
        List<Long> seen = new ArrayList<>();
        look(x, seen);
        for (int i = 0; i < 9; i++) {
            seen.add((long) x.undo());
            seen.add((long) x.many(i % 2 + 1));
        }
        for (int i = 0; i < 3; i++) {
            seen.add((long) x.back());
            seen.add(x.missing(0));
            seen.add((long) x.walk());
            seen.add((long) x.count(2, 0));
            told(x, seen);
        }
        seen.add((long) x.lay());
        seen.add((long) x.write(';'));
        seen.add((long) x.fault());
        seen.add((long) x.lay());
        look(x, seen);
        seen.add((long) x.wipe());
        return seen;
    }

    private static void told(StileCounts x, List<Long> seen) {
        for (int c = 0; c < 6; c++) {
            for (int what = 0; what < 3; what++) {
                seen.add((long) x.told(c, what));
            }
        }
    }

    private static void look(StileCounts x, List<Long> seen) {
        for (int what = 0; what < 8; what++) {
            seen.add((long) x.many(what));
        }
        told(x, seen);
        for (int k = 0; k <= 3; k++) {
            for (int what = 0; what < 3; what++) {
                seen.add((long) x.stretch(k, what));
                seen.add((long) x.sort(k, what));
                seen.add((long) x.cost(what));
            }
            seen.add(x.odds(k, 0));
            seen.add(x.odds(k, 1));
        }
        for (int i = 0; i < 6; i++) {
            for (int j = 0; j < i; j++) {
                seen.add((long) x.tie(i, j));
            }
            seen.add((long) x.march(i));
        }
        seen.add((long) x.since());
        seen.add((long) x.judge());
        seen.add(x.backward(0));
        for (int what = 0; what < 3; what++) {
            seen.add(x.decide(what));
            seen.add(x.again(what));
            seen.add(x.far(what));
            seen.add(x.plan(20, what));
        }
        seen.add((long) x.fault());
    }

    private static void refused(String name, Course course, long answer, ToLongFunction<StileCounts> call) {
        StileCounts x = course.go();
        StileCounts other = course.go();
        Due.is(name, answer, call.applyAsLong(x));
        Due.is(name + ", again", answer, call.applyAsLong(x));
        List<Long> got = future(x);
        List<Long> due = future(other);
        Due.is(name + ", answers later", due.size(), got.size());
        for (int i = 0; i < due.size(); i++) {
            Due.is(name + ", answer " + i + " later", due.get(i), got.get(i));
        }
    }

    private static void ofSeveralTheFirst() {
        Due.says("Of several the first: BAD ahead of NO, NONE, FULL");
        refused("write(31)", RefusedTest::fullText, BAD, x -> x.write(31));
        refused("write(127)", RefusedTest::fullText, BAD, x -> x.write(127));
        refused("count(4, 0)", RefusedTest::fullWay, BAD, x -> x.count(4, 0));
        refused("count(-1, 0)", RefusedTest::fullWay, BAD, x -> x.count(-1, 0));
        refused("count(0, 2)", RefusedTest::fullWay, BAD, x -> x.count(0, 2));
        refused("count(0, -3)", RefusedTest::fullWay, BAD, x -> x.count(0, -3));
        refused("backward(2)", RefusedTest::undoneAll, BAD, x -> x.backward(2));
        refused("odds(4, 0)", RefusedTest::impossible, BAD, x -> x.odds(4, 0));
        refused("odds(-1, 0)", RefusedTest::impossible, BAD, x -> x.odds(-1, 0));
        refused("odds(0, 2)", RefusedTest::impossible, BAD, x -> x.odds(0, 2));
        refused("missing(2)", RefusedTest::impossible, BAD, x -> x.missing(2));
        refused("decide(3)", RefusedTest::impossible, BAD, x -> x.decide(3));
        refused("again(3)", RefusedTest::impossible, BAD, x -> x.again(3));
        refused("far(3)", RefusedTest::impossible, BAD, x -> x.far(3));
        refused("plan(0, 3)", RefusedTest::impossible, BAD, x -> x.plan(0, 3));
        refused("plan(100, 0)", RefusedTest::impossible, BAD, x -> x.plan(100, 0));
        refused("plan(-1, 0)", RefusedTest::impossible, BAD, x -> x.plan(-1, 0));
        refused("answered(0, 3)", () -> Due.laid("s1,1,1;"), BAD, x -> x.answered(0, 3));
        refused("answered(4, 0)", () -> Due.laid("s1,1,1;"), BAD, x -> x.answered(4, 0));
        refused("backward(2), nothing can be so", () -> {
            StileCounts x = impossible();
            x.count(0, 0);
            return x;
        }, BAD, x -> x.backward(2));
    }

    /** Of each number of each call one that is too small, one that is too large. */
    private static void wrongNumbersAnywhere() {
        Due.says("BAD: a number is none that is told; nothing changes then");
        Course way = RefusedTest::onTheWay;
        for (int far = 0; far < 2; far++) {
            int less = far == 0 ? -1 : Integer.MIN_VALUE;
            int more = far == 0 ? 0 : Integer.MAX_VALUE - 10000;
            for (int side = 0; side < 2; side++) {
                int low = less;
                int high = more;
                boolean small = side == 0;
                refused("write", way, BAD, x -> x.write(small ? Math.min(31, low + 32) : 127 + high));
                refused("stretch k", way, BAD, x -> x.stretch(small ? low + 1 : 4 + high, 0));
                refused("stretch what", way, BAD, x -> x.stretch(1, small ? low : 3 + high));
                refused("sort k", way, BAD, x -> x.sort(small ? low : 4 + high, 0));
                refused("sort what", way, BAD, x -> x.sort(0, small ? low : 2 + high));
                refused("cost", way, BAD, x -> x.cost(small ? low : 3 + high));
                refused("tie i", way, BAD, x -> x.tie(small ? low : 5 + high, 0));
                refused("tie j", way, BAD, x -> x.tie(0, small ? low : 5 + high));
                refused("count sort", way, BAD, x -> x.count(small ? low : 4 + high, 0));
                refused("count d", way, BAD, x -> x.count(0, small ? Math.min(-3, low) : 2 + high));
                refused("told c", way, BAD, x -> x.told(small ? low : 2 + high, 0));
                refused("told what", way, BAD, x -> x.told(0, small ? low : 3 + high));
                refused("odds state", way, BAD, x -> x.odds(small ? low : 4 + high, 0));
                refused("odds part", way, BAD, x -> x.odds(0, small ? low : 2 + high));
                refused("missing", way, BAD, x -> x.missing(small ? low : 2 + high));
                refused("backward", way, BAD, x -> x.backward(small ? low : 2 + high));
                refused("decide", way, BAD, x -> x.decide(small ? low : 3 + high));
                refused("again", way, BAD, x -> x.again(small ? low : 3 + high));
                refused("far", way, BAD, x -> x.far(small ? low : 3 + high));
                refused("plan t", way, BAD, x -> x.plan(small ? low : 100 + high, 0));
                refused("plan what", way, BAD, x -> x.plan(0, small ? low : 3 + high));
                refused("two", way, BAD, x -> x.two(true, small ? low : 2 + high));
                refused("groups g", way, BAD, x -> x.groups(small ? Math.min(1, low + 2) : 6 + high, 0));
                refused("groups part", way, BAD, x -> x.groups(2, small ? low : 2 + high));
                refused("size", way, BAD, x -> x.size(small ? low : 100 + high));
                refused("answered i", way, BAD, x -> x.answered(small ? low : 5 + high, 0));
                refused("answered what", way, BAD, x -> x.answered(0, small ? low : 3 + high));
                refused("march", way, BAD, x -> x.march(small ? Math.min(-2, low) : 5 + high));
                refused("schools a", way, BAD, x -> x.schools(small ? low : 21 + high, 1, 0));
                refused("schools b", way, BAD, x -> x.schools(1, small ? low : 21 + high, 0));
                refused("schools what", way, BAD, x -> x.schools(1, 1, small ? low : 2 + high));
                refused("day z", way, BAD, x -> x.day(small ? low : 10000 + high, 0, 0));
                refused("day set", way, BAD, x -> x.day(0, small ? low : 8 + high, 0));
                refused("day what", way, BAD, x -> x.day(0, 0, small ? low : 2 + high));
                refused("many", way, BAD, x -> x.many(small ? low : 8 + high));
            }
        }
        refused("tie of one with himself", way, BAD, x -> x.tie(4, 4));
    }

    private static void nothingToDo() {
        Due.says("NO: not as things stand; nothing changes then");
        refused("walk", RefusedTest::fullWay, NO, StileCounts::walk);
        refused("undo", RefusedTest::undoneAll, NO, StileCounts::undo);
        refused("undo", RefusedTest::gotBack, NO, StileCounts::undo);
        refused("undo, new", StileCounts::new, NO, StileCounts::undo);
        refused("back", RefusedTest::undoneAll, NO, StileCounts::back);
        refused("back", RefusedTest::gotBack, NO, StileCounts::back);
        refused("back, new", StileCounts::new, NO, StileCounts::back);
        refused("lay, new", StileCounts::new, NO, StileCounts::lay);
        refused("backward", RefusedTest::undoneAll, NO, x -> x.backward(0));
        refused("backward, new", StileCounts::new, NO, x -> x.backward(1));
    }

    private static void allIsFull() {
        Due.says("FULL; nothing changes then");
        refused("write", RefusedTest::fullText, FULL, x -> x.write(';'));
        refused("count", RefusedTest::fullWay, FULL, x -> x.count(1, -1));
        refused("keep", RefusedTest::fullWay, FULL, StileCounts::keep);
    }

    private static void nothingCanBeSo() {
        Due.says("NONE: there is none; nothing changes then");
        Course course = RefusedTest::impossible;
        refused("odds", course, NONE, x -> x.odds(0, 0));
        refused("missing", course, NONE, x -> x.missing(1));
        refused("since", course, NONE, StileCounts::since);
        refused("decide", course, NONE, x -> x.decide(0));
        refused("again", course, NONE, x -> x.again(1));
        refused("far", course, NONE, x -> x.far(2));
        refused("plan", course, NONE, x -> x.plan(50, 0));
        refused("judge", RefusedTest::onTheWay, NONE, StileCounts::judge);
        refused("size", RefusedTest::onTheWay, NONE, x -> x.size(0));
        refused("march", () -> Due.laid("s1,1,1;k3;"), NONE, x -> x.march(0));
        refused("answered", () -> Due.laid("s1,1,1;k3;"), NONE, x -> x.answered(2, 1));
    }

    private static void unfitTexts() {
        Due.says("LAID .. (NO else); nothing changes then");
        String[] unfit = {"", "k2;", "s1,1,1", "s9,9,9;t4,5,1;", "s0,0,0;", "s1,1,1;".repeat(9), "?",
            "s9,9,9;u0,5,60;u1,5,60;u2,5,60;u3,5,60;h0,0,0;k6;t0,5,9;t0,1,9;t2,3,9;t1,4,9;k1;"};
        for (String text : unfit) {
            refused("lay of " + text, () -> {
                StileCounts x = onTheWay();
                Due.rewrite(x, text);
                return x;
            }, NO, StileCounts::lay);
        }
    }

    /** What only asks changes nothing. */
    private static void questions() {
        Due.says("(questions change nothing)");
        Course way = RefusedTest::onTheWay;
        refused("fault", way, 10, StileCounts::fault);
        refused("stretch", way, 9, x -> x.stretch(3, 2));
        refused("sort", way, 1, x -> x.sort(0, 1));
        refused("tie", way, 6, x -> x.tie(2, 1));
        refused("told", way, 1, x -> x.told(1, 0));
        refused("odds", way, way.go().odds(1, 0), x -> x.odds(1, 0));
        refused("missing", way, way.go().missing(0), x -> x.missing(0));
        refused("since", way, way.go().since(), StileCounts::since);
        refused("backward", way, way.go().backward(0), x -> x.backward(0));
        refused("decide", way, way.go().decide(1), x -> x.decide(1));
        refused("again", way, way.go().again(1), x -> x.again(1));
        refused("far", way, way.go().far(1), x -> x.far(1));
        refused("plan", way, way.go().plan(30, 1), x -> x.plan(30, 1));
        refused("two", way, 9, x -> x.two(true, 0));
        refused("groups", way, 10, x -> x.groups(2, 1));
        refused("size", way, 2, x -> x.size(99));
        refused("answered", way, 1, x -> x.answered(2, 0));
        refused("march", way, 0, x -> x.march(-1));
        refused("schools", way, 39, x -> x.schools(20, 20, 1));
        refused("day", way, way.go().day(77, 5, 0), x -> x.day(77, 5, 0));
        refused("many", way, 2, x -> x.many(1));
    }
}
