import java.math.BigInteger;
import java.util.ArrayList;
import java.util.List;
import java.util.regex.Matcher;
import java.util.regex.Pattern;

/**
 * The document once more, slowly: fractions without a bound, every course of a walk followed by itself,
 * every way to go two and two, every order of questions.
 */
final class Model {
    static final int BAD = -1, NO = -2, FULL = -3, NONE = -4;
    private static final Pattern ITEM = Pattern.compile(
        "([suht])(\\d{1,2}),(\\d{1,2}),(\\d{1,2});|(k)(\\d{1,2});");

    record Part(BigInteger above, BigInteger below) implements Comparable<Part> {
        static final Part ZERO = of(0, 1), ONE = of(1, 1);

        static Part of(long above, long below) {
            return new Part(BigInteger.valueOf(above), BigInteger.valueOf(below)).lowest();
        }

        Part lowest() {
            BigInteger g = above.gcd(below);
            return new Part(above.divide(g), below.divide(g));
        }

        Part plus(Part o) {
            return new Part(above.multiply(o.below).add(o.above.multiply(below)), below.multiply(o.below)).lowest();
        }

        Part minus(Part o) {
            return plus(o.times(of(-1, 1)));
        }

        Part times(Part o) {
            return new Part(above.multiply(o.above), below.multiply(o.below)).lowest();
        }

        Part times(long n) {
            return times(of(n, 1));
        }

        Part by(Part o) {
            return new Part(above.multiply(o.below), below.multiply(o.above)).lowest();
        }

        long get(int part) {
            return (part == 0 ? above : below).longValueExact();
        }

        public int compareTo(Part o) {
            return above.multiply(o.below).compareTo(o.above.multiply(below));
        }
    }

    record Read(int fault, List<int[]> stretches, int[][] sorts, int[] costs, int friends, int[][] ties) {
    }

    /** A stretch walked (sort -1), or a count. */
    record Step(int sort, int d) {
    }

    private final StringBuilder text = new StringBuilder();
    private Read laid = read("s20,1,2;s30,3,1;s10,0,5;u0,2,1;u1,0,4;u2,1,2;u3,3,1;t0,1,5;t2,3,2;t0,2,1;");
    private List<Step> steps = new ArrayList<>();
    private int undoable = 0;
    private final List<List<Step>> kept = new ArrayList<>();

    private static Read read(String text) {
        List<int[]> stretches = new ArrayList<>();
        int[][] sorts = {{1, 2}, {1, 2}, {1, 2}, {1, 2}};
        int[] costs = {60, 10, 8};
        int friends = 4;
        int[][] ties = new int[6][6];
        int at = 0;
        Matcher m = ITEM.matcher(text);
        while (at < text.length()) {
            boolean so = m.region(at, text.length()).lookingAt();
            if (so && m.group(5) != null) {
                friends = Integer.parseInt(m.group(6));
                so = friends >= 1 && friends <= 6;
            } else if (so) {
                int a = Integer.parseInt(m.group(2));
                int b = Integer.parseInt(m.group(3));
                int c = Integer.parseInt(m.group(4));
                switch (m.group(1)) {
                    case "s" -> {
                        so = a >= 1 && a <= 60 && b <= 10 && c <= 10 && stretches.size() < 8;
                        stretches.add(new int[] {a, b, c});
                    }
                    case "u" -> {
                        so = a <= 3 && b <= 5 && c <= 60;
                        if (so) {
                            sorts[a] = new int[] {b, c};
                        }
                    }
                    case "h" -> {
                        so = c <= 10;
                        costs = new int[] {a, b, c};
                    }
                    default -> {
                        so = a <= 5 && b <= 5 && a != b && c <= 9;
                        if (so) {
                            ties[a][b] = c;
                            ties[b][a] = c;
                        }
                    }
                }
            }
            if (!so) {
                return new Read(at, stretches, sorts, costs, friends, ties);
            }
            at = m.end();
        }
        return new Read(NONE, stretches, sorts, costs, friends, ties);
    }

    int write(int letter) {
        if (letter < 32 || letter > 126) {
            return BAD;
        }
        if (text.length() == 200) {
            return FULL;
        }
        text.append((char) letter);
        return text.length();
    }

    int wipe() {
        int was = text.length();
        text.setLength(0);
        return was;
    }

    int fault() {
        return read(text.toString()).fault;
    }

    int lay() {
        Read r = read(text.toString());
        if (r.fault != NONE || r.stretches.isEmpty()) {
            return NO;
        }
        for (int i = 0; i < 6; i++) {
            for (int j = 0; j < 6; j++) {
                if (r.ties[i][j] != 0 && (i >= r.friends || j >= r.friends)) {
                    return NO;
                }
            }
        }
        laid = r;
        steps = new ArrayList<>();
        undoable = 0;
        kept.clear();
        return r.stretches.size();
    }

    int stretch(int k, int what) {
        return k < 1 || k > laid.stretches.size() || what < 0 || what > 2 ? BAD : laid.stretches.get(k - 1)[what];
    }

    int sort(int k, int what) {
        return k < 0 || k > 3 || what < 0 || what > 1 ? BAD : laid.sorts[k][what];
    }

    int cost(int what) {
        return what < 0 || what > 2 ? BAD : laid.costs[what];
    }

    int tie(int i, int j) {
        return i < 0 || j < 0 || i == j || i >= laid.friends || j >= laid.friends ? BAD : laid.ties[i][j];
    }

    private int walked() {
        return (int) steps.stream().filter(s -> s.sort < 0).count();
    }

    private int counts() {
        return steps.size() - walked();
    }

    int walk() {
        if (walked() == laid.stretches.size()) {
            return NO;
        }
        steps.add(new Step(-1, 0));
        undoable = Math.min(8, undoable + 1);
        return walked();
    }

    int count(int sort, int d) {
        if (sort < 0 || sort > 3 || d < -2 || d > 1) {
            return BAD;
        }
        if (counts() == 6) {
            return FULL;
        }
        steps.add(new Step(sort, d));
        undoable = Math.min(8, undoable + 1);
        return counts();
    }

    int told(int c, int what) {
        if (c < 0 || c >= counts() || what < 0 || what > 2) {
            return BAD;
        }
        int behind = 0;
        int counts = 0;
        for (Step s : steps) {
            if (s.sort < 0) {
                behind++;
            } else if (counts++ == c) {
                return what == 0 ? behind : what == 1 ? s.sort : s.d + 2;
            }
        }
        throw new IllegalStateException();
    }

    int undo() {
        if (undoable == 0) {
            return NO;
        }
        steps.remove(steps.size() - 1);
        undoable--;
        return undoable;
    }

    private static Part ten(int n) {
        return Part.of(n, 10);
    }

    /** The chance that a count of a sort tells d in a state. */
    private Part tells(int sort, int state, int d) {
        int right = state == 0 ? 0 : -1;
        int u = laid.sorts[sort][0];
        Part sum = Part.ZERO;
        switch (sort) {
            case 0 -> {
                sum = sum.plus(d == right - 1 ? ten(u) : Part.ZERO);
                sum = sum.plus(d == right + 1 ? ten(u) : Part.ZERO);
                sum = sum.plus(d == right ? Part.ONE.minus(ten(2 * u)) : Part.ZERO);
            }
            case 1 -> sum = d == right ? Part.ONE : Part.ZERO;
            default -> {
                if (right == -1) {
                    sum = d == 0 ? ten(u) : d == -1 ? ten(10 - u) : Part.ZERO;
                } else {
                    sum = d == right ? Part.ONE : Part.ZERO;
                }
            }
        }
        return sum;
    }

    /** Follows every course by itself, and adds its chance to the state in which it ends. */
    private void course(List<Step> way, int at, int walked, int state, Part chance, Part[] ends) {
        if (chance.above.signum() == 0) {
            return;
        }
        if (at == way.size()) {
            ends[state] = ends[state].plus(chance);
            return;
        }
        Step s = way.get(at);
        if (s.sort >= 0) {
            course(way, at + 1, walked, state, chance.times(tells(s.sort, state, s.d)), ends);
            return;
        }
        int k = walked + 1;
        int[] stretch = laid.stretches.get(k - 1);
        int change = state == 0 ? stretch[1] : stretch[2];
        course(way, at + 1, k, state == 0 ? k : 0, chance.times(ten(change)), ends);
        course(way, at + 1, k, state, chance.times(ten(10 - change)), ends);
    }

    /** Odds of all states, or null. */
    private Part[] oddsBy(List<Step> way) {
        Part[] ends = new Part[9];
        java.util.Arrays.fill(ends, Part.ZERO);
        course(way, 0, 0, 0, Part.ONE, ends);
        Part all = Part.ZERO;
        for (Part p : ends) {
            all = all.plus(p);
        }
        if (all.above.signum() == 0) {
            return null;
        }
        for (int s = 0; s < 9; s++) {
            ends[s] = ends[s].by(all);
        }
        return ends;
    }

    long odds(int state, int part) {
        if (state < 0 || state > laid.stretches.size() || part < 0 || part > 1) {
            return BAD;
        }
        Part[] odds = oddsBy(steps);
        return odds == null ? NONE : odds[state].get(part);
    }

    private static Part away(Part[] odds) {
        return Part.ONE.minus(odds[0]);
    }

    long missing(int part) {
        if (part < 0 || part > 1) {
            return BAD;
        }
        Part[] odds = oddsBy(steps);
        return odds == null ? NONE : away(odds).get(part);
    }

    int since() {
        Part[] odds = oddsBy(steps);
        int best = NONE;
        for (int s = 8; s > 0 && odds != null; s--) {
            if (odds[s].above.signum() > 0 && (best == NONE || odds[s].compareTo(odds[best]) >= 0)) {
                best = s;
            }
        }
        return best;
    }

    int judge() {
        int counts = 0;
        for (int i = 0; i < steps.size(); i++) {
            if (steps.get(i).sort >= 0) {
                if (oddsBy(steps.subList(0, i + 1)) == null) {
                    return counts;
                }
                counts++;
            }
        }
        return NONE;
    }

    long backward(int part) {
        if (part < 0 || part > 1) {
            return BAD;
        }
        List<Step> without = new ArrayList<>(steps);
        for (int i = steps.size() - 1; i >= 0; i--) {
            if (steps.get(i).sort >= 0) {
                without.remove(i);
                Part[] odds = oddsBy(without);
                return odds == null ? NONE : away(odds).get(part);
            }
        }
        return NO;
    }

    private Part onCosts(Part[] odds) {
        return away(odds).times(laid.costs[0]);
    }

    private Part backCosts(Part[] odds) {
        return odds[0].times(laid.costs[1]);
    }

    private Part decided(Part[] odds) {
        return onCosts(odds).compareTo(backCosts(odds)) <= 0 ? onCosts(odds) : backCosts(odds);
    }

    long decide(int what) {
        if (what < 0 || what > 2) {
            return BAD;
        }
        Part[] odds = oddsBy(steps);
        if (odds == null) {
            return NONE;
        }
        if (what == 0) {
            return onCosts(odds).compareTo(backCosts(odds)) <= 0 ? 0 : 1;
        }
        return decided(odds).get(what - 1);
    }

    private Part costOfCount(Part[] odds, int sort) {
        Part sum = Part.of(laid.sorts[sort][1], 1);
        for (int d = -2; d <= 1; d++) {
            Part chance = Part.ZERO;
            for (int s = 0; s < 9; s++) {
                chance = chance.plus(odds[s].times(tells(sort, s, d)));
            }
            List<Step> then = new ArrayList<>(steps);
            then.add(new Step(sort, d));
            Part[] oddsThen = oddsBy(then);
            if (oddsThen != null) {
                sum = sum.plus(chance.times(decided(oddsThen)));
            }
        }
        return sum;
    }

    long again(int what) {
        if (what < 0 || what > 2) {
            return BAD;
        }
        Part[] odds = oddsBy(steps);
        if (odds == null) {
            return NONE;
        }
        int best = 0;
        Part[] costs = new Part[4];
        for (int sort = 0; sort < 4; sort++) {
            costs[sort] = costOfCount(odds, sort);
            if (costs[sort].compareTo(costs[best]) < 0) {
                best = sort;
            }
        }
        boolean worth = costs[best].compareTo(decided(odds)) < 0;
        if (what == 0) {
            return worth ? best : NONE;
        }
        return (worth ? costs[best] : decided(odds)).get(what - 1);
    }

    long far(int what) {
        if (what < 0 || what > 2) {
            return BAD;
        }
        Part[] odds = oddsBy(steps);
        if (odds == null) {
            return NONE;
        }
        int best = 0;
        Part least = null;
        for (int r = 0; r <= walked(); r++) {
            int minutes = 0;
            Part left = away(odds);
            for (int k = walked(); k > walked() - r; k--) {
                minutes += laid.stretches.get(k - 1)[0];
                left = left.minus(odds[k].times(ten(laid.costs[2])));
            }
            Part costs = Part.of(2 * minutes, 1).plus(left.times(laid.costs[0]));
            if (least == null || costs.compareTo(least) < 0) {
                least = costs;
                best = r;
            }
        }
        return what == 0 ? best : least.get(what - 1);
    }

    private Part planned(Part away, int set) {
        Part sum = Part.ZERO;
        for (int k = walked() + 1; k <= laid.stretches.size(); k++) {
            int[] s = laid.stretches.get(k - 1);
            away = away.times(ten(10 - s[2])).plus(Part.ONE.minus(away).times(ten(s[1])));
            sum = sum.plus(away.times(s[0]));
            if ((set & 1 << (k - 1)) != 0) {
                away = Part.ZERO;
            }
        }
        return sum;
    }

    long plan(int t, int what) {
        if (t < 0 || t > 99 || what < 0 || what > 2) {
            return BAD;
        }
        Part[] odds = oddsBy(steps);
        if (odds == null) {
            return NONE;
        }
        int best = 0;
        Part least = null;
        for (int set = 0; set < 256; set++) {
            boolean stillToBeWalked = set >> laid.stretches.size() == 0 && set % (1 << walked()) == 0;
            if (stillToBeWalked && Integer.bitCount(set) * laid.sorts[1][1] <= t) {
                Part sum = planned(away(odds), set);
                if (least == null || sum.compareTo(least) < 0) {
                    least = sum;
                    best = set;
                }
            }
        }
        return what == 0 ? best : least.get(what - 1);
    }

    int two(boolean right, int part) {
        if (part < 0 || part > 1) {
            return BAD;
        }
        Part less = tells(0, 0, -1);
        Part more = tells(0, 0, 1);
        Part none = tells(0, 0, 0);
        return (int) (right ? none.times(none) : less.times(less).plus(more.times(more))).get(part);
    }

    private Part missedBy(int g) {
        Part all = Part.ONE;
        for (int i = 1; i < g; i++) {
            all = all.times(ten(laid.sorts[2][0]));
        }
        return all;
    }

    int groups(int g, int part) {
        return g < 2 || g > 5 || part < 0 || part > 1 ? BAD : (int) missedBy(g).get(part);
    }

    int size(int x) {
        if (x < 0 || x > 99) {
            return BAD;
        }
        for (int g = 2; g <= 5; g++) {
            if (missedBy(g).compareTo(Part.of(x, 100)) <= 0) {
                return g;
            }
        }
        return NONE;
    }

    int answered(int i, int what) {
        if (i < 0 || i >= laid.friends || what < 0 || what > 2) {
            return BAD;
        }
        int all = 0;
        int most = 0;
        int who = NONE;
        for (int j = 5; j >= 0; j--) {
            all += laid.ties[i][j];
            if (laid.ties[i][j] >= most && laid.ties[i][j] > 0) {
                most = laid.ties[i][j];
                who = j;
            }
        }
        return who == NONE || what == 0 ? who : (int) Part.of(most, all).get(what - 1);
    }

    /** Every row of numbers -1 (alone) to 5 that is a way to go, in order; the first of the least. */
    int march(int i) {
        int n = laid.friends;
        if (i < -1 || i >= n) {
            return BAD;
        }
        int least = Integer.MAX_VALUE;
        int[] best = null;
        int rows = (int) Math.pow(n + 1, n);
        int[] with = new int[n];
        for (int row = 0; row < rows; row++) {
            int rest = row;
            for (int f = n - 1; f >= 0; f--) {
                with[f] = rest % (n + 1) - 1;
                rest /= n + 1;
            }
            int sum = tiesOf(with);
            if (sum >= 0 && sum < least) {
                least = sum;
                best = with.clone();
            }
        }
        return i == -1 ? least : best[i] == -1 ? NONE : best[i];
    }

    private int tiesOf(int[] with) {
        int alone = 0;
        int sum = 0;
        for (int f = 0; f < with.length; f++) {
            if (with[f] == -1) {
                alone++;
            } else if (with[f] == f || with[with[f]] != f) {
                return -1;
            } else {
                sum += laid.ties[f][with[f]];
            }
        }
        return alone == with.length % 2 ? sum / 2 : -1;
    }

    int schools(int a, int b, int what) {
        if (a < 0 || a > 20 || b < 0 || b > 20 || what < 0 || what > 1) {
            return BAD;
        }
        int[][] asked = new int[a + 1][b + 1];
        for (int i = 1; i <= a; i++) {
            for (int j = 1; j <= b; j++) {
                int one = asked[i - 1][j];
                int other = asked[i][j - 1];
                asked[i][j] = 1 + (what == 0 ? Math.min(one, other) : Math.max(one, other));
            }
        }
        return asked[a][b];
    }

    int day(int z, int set, int what) {
        if (z < 0 || z > 9999 || set < 0 || set >> laid.stretches.size() != 0 || what < 0 || what > 1) {
            return BAD;
        }
        int state = 0;
        int[] sums = new int[2];
        for (int k = 1; k <= laid.stretches.size(); k++) {
            BigInteger x = BigInteger.valueOf(7919).multiply(BigInteger.valueOf(z))
                .add(BigInteger.valueOf(6151L * k)).add(BigInteger.ONE);
            int draw = x.multiply(x).mod(BigInteger.valueOf(65521)).intValue() / 8;
            int[] s = laid.stretches.get(k - 1);
            if (state == 0 && draw % 10 < s[1]) {
                state = k;
                sums[1]++;
            } else if (state != 0 && draw % 10 < s[2]) {
                state = 0;
            }
            sums[0] += state != 0 ? s[0] : 0;
            state = (set & 1 << (k - 1)) != 0 ? 0 : state;
        }
        return sums[what];
    }

    int keep() {
        if (kept.size() == 2) {
            return FULL;
        }
        kept.add(new ArrayList<>(steps));
        return kept.size();
    }

    int back() {
        if (kept.isEmpty()) {
            return NO;
        }
        steps = kept.remove(kept.size() - 1);
        undoable = 0;
        return kept.size();
    }

    int many(int what) {
        int minutes = 0;
        int k = 0;
        for (Step s : steps) {
            minutes += s.sort < 0 ? laid.stretches.get(k++)[0] : laid.sorts[s.sort][1];
        }
        int[] all = {laid.stretches.size(), walked(), counts(), laid.friends, minutes, undoable, kept.size(),
            text.length()};
        return what < 0 || what > 7 ? BAD : all[what];
    }
}
