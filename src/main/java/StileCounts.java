/**
 * Children counted at every stile of a walk: who may be missing, since when, and what to do then.
 *
 * No call makes an object: all rows are made once, with the object itself.
 */
public final class StileCounts {
    public static final int BAD = -1, NO = -2, FULL = -3, NONE = -4;

    private static final int MOST_LETTERS = 200;
    private static final int MOST_STRETCHES = 8;
    private static final int MOST_FRIENDS = 6;
    private static final int MOST_COUNTS = 6;
    private static final int MOST_UNDONE = 8;
    private static final int MOST_KEPT = 2;

    private static final int SORTS = 4;
    private static final int HEAP = 0;
    private static final int STILE = 1;
    private static final int PAIRS = 2;

    private static final int TEN = 10;
    private static final int HUNDRED = 100;
    private static final int ALL_THERE = 0;
    private static final int ONE_LESS = -1;
    private static final int LEAST_TOLD = -2;
    private static final int MOST_TOLD = 1;

    private static final int LEAST_GROUP = 2;
    private static final int MOST_GROUP = 5;
    private static final int MOST_OF_A_SCHOOL = 20;
    private static final int MOST_DAY = 9999;
    private static final int MOST_PLANNED = 99;

    // Far above the 92 steps that two longs can need.
    private static final int MOST_STEPS_OF_DIVISOR = 200;

    private static final String FIRST_TEXT =
        "s20,1,2;s30,3,1;s10,0,5;u0,2,1;u1,0,4;u2,1,2;u3,3,1;t0,1,5;t2,3,2;t0,2,1;";

    private final Text text;
    private final Reader reader;
    // What is laid now, and what a text is read into; lay() lets them change places.
    private Laid laid;
    private Laid draft;
    private final Way way;
    private final Way[] kept;
    private int keptWays;
    private final Chances chances;
    private final Choice choice;
    private final Pairing pairing;

    public StileCounts() {
        text = new Text();
        reader = new Reader();
        laid = new Laid();
        draft = new Laid();
        way = new Way();
        kept = new Way[MOST_KEPT];
        for (int i = 0; i < MOST_KEPT; i++) {
            kept[i] = new Way();
        }
        keptWays = 0;
        chances = new Chances();
        choice = new Choice();
        pairing = new Pairing();
        for (int i = 0; i < FIRST_TEXT.length(); i++) {
            text.append(FIRST_TEXT.charAt(i));
        }
        reader.readInto(laid, text);
        text.length = 0;
    }

    // ---- walks

    public int write(int letter) {
        if (letter < 32 || letter > 126) {
            return BAD;
        }
        if (text.length >= MOST_LETTERS) {
            return FULL;
        }
        text.append((char) letter);
        return text.length;
    }

    public int wipe() {
        int was = text.length;
        text.length = 0;
        return was;
    }

    public int fault() {
        return reader.readInto(draft, text);
    }

    public int lay() {
        if (reader.readInto(draft, text) != NONE || !draft.canBeLaid()) {
            return NO;
        }
        Laid before = laid;
        laid = draft;
        draft = before;
        way.clear();
        keptWays = 0;
        return laid.stretches;
    }

    public int stretch(int k, int what) {
        if (k < 1 || k > laid.stretches) {
            return BAD;
        }
        switch (what) {
            case 0: return laid.minutes[k];
            case 1: return laid.lostBy[k];
            case 2: return laid.backBy[k];
            default: return BAD;
        }
    }

    public int sort(int k, int what) {
        if (!isSort(k)) {
            return BAD;
        }
        switch (what) {
            case 0: return laid.slips[k];
            case 1: return laid.takes[k];
            default: return BAD;
        }
    }

    public int cost(int what) {
        switch (what) {
            case 0: return laid.costOn;
            case 1: return laid.costBack;
            case 2: return laid.foundBy;
            default: return BAD;
        }
    }

    public int tie(int i, int j) {
        if (!isFriend(i) || !isFriend(j) || i == j) {
            return BAD;
        }
        return laid.ties[i][j];
    }

    // ---- on the way

    public int walk() {
        if (way.walked >= laid.stretches) {
            return NO;
        }
        way.addStretch();
        return way.walked;
    }

    public int count(int sort, int d) {
        if (!isSort(sort) || d < LEAST_TOLD || d > MOST_TOLD) {
            return BAD;
        }
        if (way.counts >= MOST_COUNTS) {
            return FULL;
        }
        way.addCount(sort, d);
        return way.counts;
    }

    public int told(int c, int what) {
        if (c < 0 || c >= way.counts) {
            return BAD;
        }
        switch (what) {
            case 0: return way.behind[c];
            case 1: return way.sorts[c];
            case 2: return way.tells[c] - LEAST_TOLD;
            default: return BAD;
        }
    }

    public int undo() {
        if (way.undoable <= 0) {
            return NO;
        }
        way.takeBack();
        return way.undoable;
    }

    // ---- who is missing

    public long odds(int state, int part) {
        if (state < 0 || state > laid.stretches || !isPart(part)) {
            return BAD;
        }
        chances.follow(laid, way, way.counts);
        return chances.all == 0 ? NONE : lowest(chances.of[state], chances.all, part);
    }

    public long missing(int part) {
        if (!isPart(part)) {
            return BAD;
        }
        chances.follow(laid, way, way.counts);
        return chances.all == 0 ? NONE : lowest(chances.away, chances.all, part);
    }

    public int since() {
        chances.follow(laid, way, way.counts);
        return chances.likeliestAway();
    }

    public int judge() {
        return chances.follow(laid, way, way.counts);
    }

    public long backward(int part) {
        if (!isPart(part)) {
            return BAD;
        }
        if (way.counts == 0) {
            return NO;
        }
        chances.follow(laid, way, way.counts - 1);
        return chances.all == 0 ? NONE : lowest(chances.away, chances.all, part);
    }

    // ---- what to do

    public long decide(int what) {
        if (!isOfChoice(what)) {
            return BAD;
        }
        chances.follow(laid, way, way.counts);
        choice.onOrBack(laid, chances);
        return choice.answer(what);
    }

    public long again(int what) {
        if (!isOfChoice(what)) {
            return BAD;
        }
        chances.follow(laid, way, way.counts);
        choice.anotherCount(laid, chances);
        return choice.answer(what);
    }

    public long far(int what) {
        if (!isOfChoice(what)) {
            return BAD;
        }
        chances.follow(laid, way, way.counts);
        choice.howFarBack(laid, chances, way.walked);
        return choice.answer(what);
    }

    public long plan(int t, int what) {
        if (t < 0 || t > MOST_PLANNED || !isOfChoice(what)) {
            return BAD;
        }
        chances.follow(laid, way, way.counts);
        choice.whereToCount(laid, chances, way.walked, t);
        return choice.answer(what);
    }

    // ---- counters, groups

    public int two(boolean right, int part) {
        if (!isPart(part)) {
            return BAD;
        }
        int slip = laid.slips[HEAP];
        int rightByTen = TEN - 2 * slip;
        int above = right ? rightByTen * rightByTen : 2 * slip * slip;
        return (int) lowest(above, HUNDRED, part);
    }

    public int groups(int g, int part) {
        if (g < LEAST_GROUP || g > MOST_GROUP || !isPart(part)) {
            return BAD;
        }
        return (int) lowest(power(laid.slips[PAIRS], g - 1), power(TEN, g - 1), part);
    }

    public int size(int x) {
        if (x < 0 || x >= HUNDRED) {
            return BAD;
        }
        for (int g = LEAST_GROUP; g <= MOST_GROUP; g++) {
            if (power(laid.slips[PAIRS], g - 1) * HUNDRED <= x * power(TEN, g - 1)) {
                return g;
            }
        }
        return NONE;
    }

    public int answered(int i, int what) {
        if (!isFriend(i) || !isOfChoice(what)) {
            return BAD;
        }
        int who = 0;
        int all = 0;
        for (int j = 0; j < laid.friends; j++) {
            all += laid.ties[i][j];
            if (laid.ties[i][j] > laid.ties[i][who]) {
                who = j;
            }
        }
        if (all == 0) {
            return NONE;
        }
        return what == 0 ? who : (int) lowest(laid.ties[i][who], all, what - 1);
    }

    public int march(int i) {
        if (i != -1 && !isFriend(i)) {
            return BAD;
        }
        pairing.seek(laid);
        return i == -1 ? pairing.least : pairing.best[i];
    }

    public int schools(int a, int b, int what) {
        if (!isOfSchool(a) || !isOfSchool(b) || (what != 0 && what != 1)) {
            return BAD;
        }
        if (what == 0 || a == 0 || b == 0) {
            return Math.min(a, b);
        }
        return a + b - 1;
    }

    public int day(int z, int set, int what) {
        if (z < 0 || z > MOST_DAY || set < 0 || set >= 1 << laid.stretches || (what != 0 && what != 1)) {
            return BAD;
        }
        boolean away = false;
        int minutes = 0;
        int losses = 0;
        for (int k = 1; k <= laid.stretches; k++) {
            int drawn = draw(z, k);
            if (away) {
                away = drawn >= laid.backBy[k];
            } else if (drawn < laid.lostBy[k]) {
                away = true;
                losses++;
            }
            if (away) {
                minutes += laid.minutes[k];
            }
            if (holds(set, k)) {
                away = false;
            }
        }
        return what == 0 ? minutes : losses;
    }

    public int keep() {
        if (keptWays >= MOST_KEPT) {
            return FULL;
        }
        kept[keptWays].become(way);
        keptWays++;
        return keptWays;
    }

    public int back() {
        if (keptWays <= 0) {
            return NO;
        }
        keptWays--;
        way.become(kept[keptWays]);
        way.undoable = 0;
        return keptWays;
    }

    public int many(int what) {
        switch (what) {
            case 0: return laid.stretches;
            case 1: return way.walked;
            case 2: return way.counts;
            case 3: return laid.friends;
            case 4: return minutesSpent();
            case 5: return way.undoable;
            case 6: return keptWays;
            case 7: return text.length;
            default: return BAD;
        }
    }

    private int minutesSpent() {
        int minutes = laid.minutesOver(1, way.walked);
        for (int c = 0; c < way.counts; c++) {
            minutes += laid.takes[way.sorts[c]];
        }
        return minutes;
    }

    private boolean isFriend(int i) {
        return i >= 0 && i < laid.friends;
    }

    private static boolean isSort(int k) {
        return k >= 0 && k < SORTS;
    }

    private static boolean isPart(int part) {
        return part == 0 || part == 1;
    }

    private static boolean isOfChoice(int what) {
        return what >= 0 && what <= 2;
    }

    private static boolean isOfSchool(int children) {
        return children >= 0 && children <= MOST_OF_A_SCHOOL;
    }

    private static boolean holds(int set, int k) {
        return (set >> (k - 1) & 1) != 0;
    }

    private static int draw(int z, int k) {
        long x = 7919L * z + 6151L * k + 1;
        return (int) (x * x % 65521 / 8 % TEN);
    }

    private static int power(int base, int times) {
        int product = 1;
        for (int i = 0; i < times; i++) {
            product *= base;
        }
        return product;
    }

    /** Above (part 0) or below (part 1) of a fraction in lowest terms. */
    private static long lowest(long above, long below, int part) {
        long divisor = commonDivisor(above, below);
        if (divisor == 0) {
            return NONE;
        }
        return (part == 0 ? above : below) / divisor;
    }

    private static long commonDivisor(long a, long b) {
        for (int i = 0; i < MOST_STEPS_OF_DIVISOR && b != 0; i++) {
            long rest = a % b;
            a = b;
            b = rest;
        }
        return a;
    }

    /** By how many of ten a count tells d, if `right` is right. */
    private static int byTen(int sort, int slip, int right, int d) {
        if (sort == HEAP) {
            if (d == right) {
                return TEN - 2 * slip;
            }
            return d == right - 1 || d == right + 1 ? slip : 0;
        }
        int overlooks = sort != STILE && right == ONE_LESS ? slip : 0;
        if (d == right) {
            return TEN - overlooks;
        }
        return d == ALL_THERE ? overlooks : 0;
    }

    /** THE TEXT. */
    private static final class Text {
        final char[] letters = new char[MOST_LETTERS];
        int length = 0;

        void append(char letter) {
            if (length < MOST_LETTERS) {
                letters[length] = letter;
                length++;
            }
        }

        /** The letter at a place; behind the last one a sign that no ITEM has. */
        char at(int place) {
            return place >= 0 && place < length && place < MOST_LETTERS ? letters[place] : 0;
        }
    }

    /** All that a TEXT tells. Rows of STRETCHES begin at 1. */
    private static final class Laid {
        int stretches;
        final int[] minutes = new int[MOST_STRETCHES + 1];
        final int[] lostBy = new int[MOST_STRETCHES + 1];
        final int[] backBy = new int[MOST_STRETCHES + 1];
        final int[] slips = new int[SORTS];
        final int[] takes = new int[SORTS];
        int costOn;
        int costBack;
        int foundBy;
        int friends;
        final int[][] ties = new int[MOST_FRIENDS][MOST_FRIENDS];

        /** As an empty TEXT tells it. */
        void clear() {
            stretches = 0;
            for (int k = 0; k < SORTS; k++) {
                slips[k] = 1;
                takes[k] = 2;
            }
            costOn = 60;
            costBack = 10;
            foundBy = 8;
            friends = 4;
            for (int i = 0; i < MOST_FRIENDS; i++) {
                for (int j = 0; j < MOST_FRIENDS; j++) {
                    ties[i][j] = 0;
                }
            }
        }

        boolean canBeLaid() {
            if (stretches < 1) {
                return false;
            }
            for (int i = 0; i < MOST_FRIENDS; i++) {
                for (int j = friends; j < MOST_FRIENDS; j++) {
                    if (ties[i][j] != 0) {
                        return false;
                    }
                }
            }
            return true;
        }

        int minutesOver(int from, int to) {
            int sum = 0;
            for (int k = from; k <= to; k++) {
                sum += minutes[k];
            }
            return sum;
        }
    }

    /** Reads a TEXT, ITEM by ITEM. */
    private static final class Reader {
        private static final String KINDS = "suhkt";
        private static final int STRETCH_ITEM = 0, SORT_ITEM = 1, COST_ITEM = 2, FRIENDS_ITEM = 3;
        private static final int MOST_NUMBERS = 3;
        private static final int[] NUMBERS = {3, 3, 3, 1, 3};
        // Three of each kind, one kind behind the other.
        private static final int[] LEAST = {1, 0, 0, 0, 0, 0, 0, 0, 0, 1, 0, 0, 0, 0, 0};
        private static final int[] MOST = {60, 10, 10, 3, 5, 60, 99, 99, 10, 6, 0, 0, 5, 5, 9};

        private final int[] numbers = new int[MOST_NUMBERS];
        private int place;

        /** The place of the first ITEM at fault, or NONE. */
        int readInto(Laid into, Text from) {
            into.clear();
            place = 0;
            // An ITEM takes a letter at least, so there are no more ITEMS than letters.
            for (int items = 0; items < MOST_LETTERS && place < from.length; items++) {
                int begin = place;
                if (!readItem(into, from)) {
                    return begin;
                }
            }
            return NONE;
        }

        private boolean readItem(Laid into, Text from) {
            int kind = KINDS.indexOf(from.at(place));
            if (kind < 0) {
                return false;
            }
            place++;
            for (int n = 0; n < NUMBERS[kind]; n++) {
                char end = n == NUMBERS[kind] - 1 ? ';' : ',';
                if (!readNumber(from, n) || from.at(place) != end) {
                    return false;
                }
                place++;
                int bound = kind * MOST_NUMBERS + n;
                if (numbers[n] < LEAST[bound] || numbers[n] > MOST[bound]) {
                    return false;
                }
            }
            return enter(into, kind);
        }

        private boolean readNumber(Text from, int n) {
            if (!isFigure(from.at(place))) {
                return false;
            }
            numbers[n] = from.at(place) - '0';
            place++;
            if (isFigure(from.at(place))) {
                numbers[n] = numbers[n] * TEN + from.at(place) - '0';
                place++;
            }
            return true;
        }

        private static boolean isFigure(char letter) {
            return letter >= '0' && letter <= '9';
        }

        private boolean enter(Laid into, int kind) {
            switch (kind) {
                case STRETCH_ITEM: return enterStretch(into);
                case SORT_ITEM:
                    into.slips[numbers[0]] = numbers[1];
                    into.takes[numbers[0]] = numbers[2];
                    return true;
                case COST_ITEM:
                    into.costOn = numbers[0];
                    into.costBack = numbers[1];
                    into.foundBy = numbers[2];
                    return true;
                case FRIENDS_ITEM:
                    into.friends = numbers[0];
                    return true;
                default: return enterTie(into);
            }
        }

        private boolean enterStretch(Laid into) {
            if (into.stretches >= MOST_STRETCHES) {
                return false;
            }
            into.stretches++;
            into.minutes[into.stretches] = numbers[0];
            into.lostBy[into.stretches] = numbers[1];
            into.backBy[into.stretches] = numbers[2];
            return true;
        }

        private boolean enterTie(Laid into) {
            if (numbers[0] == numbers[1]) {
                return false;
            }
            into.ties[numbers[0]][numbers[1]] = numbers[2];
            into.ties[numbers[1]][numbers[0]] = numbers[2];
            return true;
        }
    }

    /** What was walked and told. */
    private static final class Way {
        int walked = 0;
        int counts = 0;
        final int[] behind = new int[MOST_COUNTS];
        final int[] sorts = new int[MOST_COUNTS];
        final int[] tells = new int[MOST_COUNTS];
        int undoable = 0;

        void clear() {
            walked = 0;
            counts = 0;
            undoable = 0;
        }

        void addStretch() {
            walked++;
            undoable = Math.min(undoable + 1, MOST_UNDONE);
        }

        void addCount(int sort, int d) {
            behind[counts] = walked;
            sorts[counts] = sort;
            tells[counts] = d;
            counts++;
            undoable = Math.min(undoable + 1, MOST_UNDONE);
        }

        /** A count behind the last stretch came later than it, any other one earlier. */
        void takeBack() {
            if (counts > 0 && behind[counts - 1] == walked) {
                counts--;
            } else if (walked > 0) {
                walked--;
            }
            undoable--;
        }

        void become(Way other) {
            walked = other.walked;
            counts = other.counts;
            undoable = other.undoable;
            for (int c = 0; c < MOST_COUNTS; c++) {
                behind[c] = other.behind[c];
                sorts[c] = other.sorts[c];
                tells[c] = other.tells[c];
            }
        }
    }

    /**
     * Chances of STATES, all by one whole that is left out: every stretch and every count
     * makes that whole ten times as great, so `all` is 10 to the 14th at most.
     */
    private static final class Chances {
        final long[] of = new long[MOST_STRETCHES + 1];
        long away;
        long all;

        /** Goes the way with its first counts; the first count behind which nothing can be so, or NONE. */
        int follow(Laid laid, Way way, int counts) {
            begin();
            int judged = NONE;
            int gone = 0;
            for (int c = 0; c < counts; c++) {
                goTo(laid, gone, way.behind[c]);
                gone = way.behind[c];
                weigh(laid, way.sorts[c], way.tells[c]);
                if (judged == NONE && all == 0) {
                    judged = c;
                }
            }
            goTo(laid, gone, way.walked);
            return judged;
        }

        private void begin() {
            for (int s = 0; s <= MOST_STRETCHES; s++) {
                of[s] = 0;
            }
            of[0] = 1;
            addUp();
        }

        private void goTo(Laid laid, int from, int to) {
            for (int k = from + 1; k <= to; k++) {
                long there = of[0] * (TEN - laid.lostBy[k]) + away * laid.backBy[k];
                for (int s = 1; s < k; s++) {
                    of[s] *= TEN - laid.backBy[k];
                }
                of[k] = of[0] * laid.lostBy[k];
                of[0] = there;
                addUp();
            }
        }

        private void weigh(Laid laid, int sort, int d) {
            of[0] *= byTen(sort, laid.slips[sort], ALL_THERE, d);
            for (int s = 1; s <= MOST_STRETCHES; s++) {
                of[s] *= byTen(sort, laid.slips[sort], ONE_LESS, d);
            }
            addUp();
        }

        private void addUp() {
            away = 0;
            for (int s = 1; s <= MOST_STRETCHES; s++) {
                away += of[s];
            }
            all = of[0] + away;
        }

        int likeliestAway() {
            int likeliest = NONE;
            long most = 0;
            for (int s = 1; s <= MOST_STRETCHES; s++) {
                if (of[s] > most) {
                    most = of[s];
                    likeliest = s;
                }
            }
            return likeliest;
        }
    }

    /** What is best to do, and what it costs, as a fraction; below is 0, if nothing can be so. */
    private static final class Choice {
        private int which;
        private long above;
        private long below;

        long answer(int what) {
            if (below == 0) {
                return NONE;
            }
            return what == 0 ? which : lowest(above, below, what - 1);
        }

        void onOrBack(Laid laid, Chances now) {
            long on = laid.costOn * now.away;
            long back = laid.costBack * now.of[0];
            which = on <= back ? 0 : 1;
            above = Math.min(on, back);
            below = now.all;
        }

        void anotherCount(Laid laid, Chances now) {
            onOrBack(laid, now);
            which = NONE;
            above *= TEN;
            below *= TEN;
            for (int sort = 0; sort < SORTS; sort++) {
                long costs = laid.takes[sort] * below + decidedBehind(laid, now, sort);
                if (costs < above) {
                    above = costs;
                    which = sort;
                }
            }
        }

        /** What it costs on the mean to decide behind a count, by ten times the whole of now. */
        private static long decidedBehind(Laid laid, Chances now, int sort) {
            long sum = 0;
            for (int d = LEAST_TOLD; d <= MOST_TOLD; d++) {
                long away = now.away * byTen(sort, laid.slips[sort], ONE_LESS, d);
                long there = now.of[0] * byTen(sort, laid.slips[sort], ALL_THERE, d);
                sum += Math.min(laid.costOn * away, laid.costBack * there);
            }
            return sum;
        }

        void howFarBack(Laid laid, Chances now, int walked) {
            which = 0;
            above = laid.costOn * TEN * now.away;
            below = TEN * now.all;
            long found = 0;
            for (int r = 1; r <= walked; r++) {
                int last = walked - r + 1;
                found += laid.foundBy * now.of[last];
                long costs = 2 * laid.minutesOver(last, walked) * below + laid.costOn * (TEN * now.away - found);
                if (costs < above) {
                    above = costs;
                    which = r;
                }
            }
        }

        void whereToCount(Laid laid, Chances now, int walked, int t) {
            which = 0;
            above = sumOfMinutes(laid, now, walked, 0);
            below = now.all * power(TEN, laid.stretches - walked);
            // Sets of stretches still to be walked: those walked have the lowest bits.
            int first = 1 << walked;
            for (int set = first; set < 1 << laid.stretches; set += first) {
                if (Integer.bitCount(set) * laid.takes[STILE] <= t) {
                    long sum = sumOfMinutes(laid, now, walked, set);
                    if (sum < above) {
                        above = sum;
                        which = set;
                    }
                }
            }
        }

        private static long sumOfMinutes(Laid laid, Chances now, int walked, int set) {
            long away = now.away;
            long all = now.all;
            long sum = 0;
            for (int k = walked + 1; k <= laid.stretches; k++) {
                away = away * (TEN - laid.backBy[k]) + (all - away) * laid.lostBy[k];
                all *= TEN;
                sum = sum * TEN + laid.minutes[k] * away;
                if (holds(set, k)) {
                    away = 0;
                }
            }
            return sum;
        }
    }

    /** The best way to have friends go two and two. */
    private static final class Pairing {
        private static final int UNSET = -9;

        private final int[] with = new int[MOST_FRIENDS];
        final int[] best = new int[MOST_FRIENDS];
        int least;
        private boolean found;

        void seek(Laid laid) {
            for (int i = 0; i < MOST_FRIENDS; i++) {
                with[i] = UNSET;
                best[i] = NONE;
            }
            least = 0;
            found = false;
            place(laid, 0, laid.friends % 2 != 0, 0);
        }

        /** Ways are tried in the document's order, so that the first of several stays. */
        private void place(Laid laid, int i, boolean oneAlone, int sum) {
            if (i >= laid.friends || i >= MOST_FRIENDS) {
                settle(sum);
                return;
            }
            if (with[i] != UNSET) {
                place(laid, i + 1, oneAlone, sum);
                return;
            }
            if (oneAlone) {
                with[i] = NONE;
                place(laid, i + 1, false, sum);
            }
            for (int j = i + 1; j < laid.friends; j++) {
                if (with[j] == UNSET) {
                    with[i] = j;
                    with[j] = i;
                    place(laid, i + 1, oneAlone, sum + laid.ties[i][j]);
                    with[j] = UNSET;
                }
            }
            with[i] = UNSET;
        }

        private void settle(int sum) {
            if (found && sum >= least) {
                return;
            }
            found = true;
            least = sum;
            for (int i = 0; i < MOST_FRIENDS; i++) {
                best[i] = with[i];
            }
        }
    }
}
