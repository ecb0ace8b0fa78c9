import java.util.LinkedHashMap;
import java.util.Map;
import java.util.function.ToLongFunction;

/** "An object is used for at most 512 calls": each call, as the 512th of an object, answers as it does early. */
public final class LastCallTest {
    private static final int MOST_CALLS = 512;
    private static final String TEXT = "s20,2,3;s30,3,1;u2,4,2;k3;t0,1,5;";

    public static void main(String[] args) {
        Due.says("An object is used for at most 512 calls");
        for (Map.Entry<String, ToLongFunction<StileCounts>> call : calls().entrySet()) {
            StileCounts early = new StileCounts();
            goThere(early);
            StileCounts late = new StileCounts();
            int before = MOST_CALLS - 1 - goThere(new StileCounts());
            for (int i = 0; i < before; i++) {
                idle(late, i);
            }
            goThere(late);
            Due.is(call.getKey(), call.getValue().applyAsLong(early), call.getValue().applyAsLong(late));
        }
        Due.is("calls", 31, calls().size());
        Due.end();
    }

    /** To a walk on which no call below is refused; how many calls it takes. */
    private static int goThere(StileCounts x) {
        x.wipe();
        Due.write(x, TEXT);
        Due.is("lay", 2, x.lay());
        Due.is("walk", 1, x.walk());
        Due.is("keep", 1, x.keep());
        Due.is("count", 1, x.count(2, 0));
        return TEXT.length() + 5;
    }

    /** Calls that change all that goThere() does not set anew, and much that it does. */
    private static void idle(StileCounts x, int i) {
        switch (i % 9) {
            case 0 -> x.walk();
            case 1, 2, 3 -> x.count(i % 4, 0);
            case 4 -> x.keep();
            case 5 -> x.plan(99, 0);
            case 6 -> x.write('s');
            case 7 -> x.march(-1);
            default -> x.undo();
        }
    }

    private static Map<String, ToLongFunction<StileCounts>> calls() {
        Map<String, ToLongFunction<StileCounts>> all = new LinkedHashMap<>();
        all.put("write", x -> x.write('k'));
        all.put("wipe", x -> x.wipe());
        all.put("fault", x -> x.fault());
        all.put("lay", x -> x.lay());
        all.put("stretch", x -> x.stretch(2, 0));
        all.put("sort", x -> x.sort(2, 0));
        all.put("cost", x -> x.cost(0));
        all.put("tie", x -> x.tie(1, 0));
        all.put("walk", x -> x.walk());
        all.put("count", x -> x.count(0, -1));
        all.put("told", x -> x.told(0, 1));
        all.put("undo", x -> x.undo());
        all.put("odds", x -> x.odds(0, 0));
        all.put("missing", x -> x.missing(1));
        all.put("since", x -> x.since());
        all.put("judge", x -> x.judge());
        all.put("backward", x -> x.backward(1));
        all.put("decide", x -> x.decide(1));
        all.put("again", x -> x.again(1));
        all.put("far", x -> x.far(1));
        all.put("plan", x -> x.plan(9, 1));
        all.put("two", x -> x.two(true, 0));
        all.put("groups", x -> x.groups(3, 1));
        all.put("size", x -> x.size(9));
        all.put("answered", x -> x.answered(0, 0));
        all.put("march", x -> x.march(1));
        all.put("schools", x -> x.schools(4, 3, 1));
        all.put("day", x -> x.day(9999, 1, 0));
        all.put("keep", x -> x.keep());
        all.put("back", x -> x.back());
        all.put("many", x -> x.many(5));
        return all;
    }
}
