public final class DidITurnItOff {
    public static final int NONE = -1, BAD = -2, STATE = -3, FULL = -4;
    public static final long NO = Long.MIN_VALUE;

    private static final int NOT_ANY = -5, ANOTHER_KIND = -6, FAULT_AT_0 = -10, NO_ANSWER = -999999;

    private static final int DEED = 0, STOVE = 1, DOOR = 2, IRON = 3, OVEN = 4, GATE = 5, TOLD = 6;
    // Of each KIND the next one above; DEED has none.
    private static final int[] ABOVE = {-1, 0, 0, 0, 1, 2, 3};
    private static final int LEVELS = 3;

    private static final int MOST_DEEDS = 6, MOST_HOUSES = 5, MOST_SIGNS = 100, MOST_CLAUSES = 10, MOST_OPEN = 5;
    private static final int MOST_SEEN = 5, MOST_PLAN = 8, MOST_BOOK = 8, MOST_BODIES = 20, MOST_DEPTH = 40;
    private static final int LAST_SIGN = 127, LAST_DIGIT = 9, LAST_PERCENT = 99, LAST_HURRY = 20, LAST_YARD = 60;
    private static final int LAST_AHEAD = 60, LAST_MORNING = 9999, LAST_HARM = 999999, LAST_MINUTE = 30;
    private static final int LAST_RENEWED = 8, LAST_SEEN = 20, LOOK_YARD = 20, FIRST_WORRY = 2, ROW_LENGTH = 4;

    // A plan of RENEW as one number: how many mornings, times 256, and which: the least number is the best plan.
    private static final int ONE_RENEWED = 256, NO_PLAN = 1 << 20;

    private static final int WORRY = 0, HEED = 1, HASTE = 2;
    private static final int NOT = 6, BOTH = 7, EITHER = 8;

    private final Whole now;
    private final Whole kept;
    private boolean isKept;
    private final HouseReader reader;
    private final House fresh;
    private final World trial;
    private final Deed one;
    private final Bodies bodies;
    private final int[] planHere;
    private final int[] planBehind;

    public DidITurnItOff() {
        now = new Whole();
        kept = new Whole();
        fresh = new House();
        reader = new HouseReader(now, fresh);
        trial = new World();
        one = new Deed(0);
        bodies = new Bodies();
        planHere = new int[LAST_DIGIT + 1];
        planBehind = new int[LAST_DIGIT + 1];
    }

    // ---- houses, deeds

    public int feed(int sign) {
        if (isOff(sign, LAST_SIGN)) return BAD;
        return now.addSign(sign) ? now.tapeSize : FULL;
    }

    public int house() {
        if (now.houses >= MOST_HOUSES) return FULL;
        int fault = reader.readHouse();
        now.tapeSize = 0;
        if (fault >= 0) return FAULT_AT_0 - fault;
        now.house.copyFrom(fresh);
        now.houses++;
        return now.houses - 1;
    }

    public int deed(int kind, int v) {
        if (isOff(kind, TOLD)) return NONE;
        if (isOff(v, LAST_DIGIT)) return BAD;
        return now.world.addDeed(kind, v) ? now.world.size - 1 : FULL;
    }

    public int of(int deed, int what) {
        Deed d = now.world.find(deed);
        if (d == null) return NO_ANSWER;
        switch (what) {
            case 0: return d.kind;
            case 1: return d.v;
            case 2: return d.isLeft ? 1 : 0;
            case 3: return d.trace;
            case 4: return d.alike;
            case 5: return d.mark;
            case 6: return d.checks;
            case 7: return d.care(now.house, now.world.morning);
            case 8: return d.yardBack(now.house.worry);
            default: return NO_ANSWER;
        }
    }

    public int row(int deed, int k, int n) {
        Deed d = now.world.find(deed);
        if (d == null || isOff(k, ROW_LENGTH - 1)) return NONE;
        if (isOff(n, LAST_DIGIT)) return BAD;
        if (d.kind != TOLD) return STATE;
        int was = d.rowAt(k);
        d.setRow(k, n);
        return was;
    }

    public int set(int deed, int what, int n) {
        Deed d = now.world.find(deed);
        if (d == null || isOff(what, 2)) return NONE;
        if (isOff(n, what == 2 ? LAST_DIGIT : LAST_PERCENT)) return BAD;
        int was;
        if (what == 0) {
            was = d.trace;
            d.trace = n;
        } else if (what == 1) {
            was = d.alike;
            d.alike = n;
        } else {
            was = d.mark;
            d.mark = n;
        }
        return was;
    }

    public int hurry(int n) {
        if (isOff(n, LAST_HURRY)) return BAD;
        int was = now.world.hurry;
        now.world.hurry = n;
        return was;
    }

    public int look(int deed) {
        Deed d = now.world.find(deed);
        if (d == null) return NONE;
        boolean wasLeft = d.isLeft;
        d.beLookedAfter();
        return wasLeft ? 1 : 0;
    }

    public int doubt(int deed, int yard) {
        Deed d = now.world.find(deed);
        if (d == null || isOff(yard, LAST_YARD)) return NO_ANSWER;
        return d.doubtAt(yard, now.house.worry);
    }

    public int told(int what) {
        switch (what) {
            case 0: return now.world.morning;
            case 1: return now.house.worry;
            case 2: return now.world.hurry;
            case 3: return now.world.harm;
            case 4: return now.world.leftBits();
            default: return NONE;
        }
    }

    public int pass(int n) {
        if (isOff(n, LAST_AHEAD)) return BAD;
        if (now.world.morning + n > LAST_MORNING) return STATE;
        now.world.goMornings(n, now.house);
        now.world.harm = Math.min(now.world.harm, LAST_HARM);
        return now.world.morning;
    }

    // ---- mornings to come

    public int on(int n, int what) {
        boolean isTrace = now.world.find(what - 10) != null;
        boolean isAlike = now.world.find(what - 20) != null;
        if (isOff(what, 1) && !isTrace && !isAlike) return NONE;
        if (isOff(n, LAST_AHEAD)) return BAD;
        trial.copyFrom(now.world);
        trial.goMornings(n, now.house);
        if (what == 0) return trial.leftBits();
        if (what == 1) return trial.harm;
        Deed d = trial.find(isTrace ? what - 10 : what - 20);
        if (d == null) return NONE;
        return isTrace ? d.trace : d.alike;
    }

    public int best(int minutes, int what) {
        if (isOff(what, 1)) return NONE;
        if (isOff(minutes, LAST_MINUTE)) return BAD;
        int most = 0;
        int which = 0;
        for (int bits = 0; bits < 1 << now.world.size; bits++) {
            // Only a set that is worth more takes the place of one with fewer bits.
            if (minutesOf(bits) <= minutes && worthOf(bits) > most) {
                most = worthOf(bits);
                which = bits;
            }
        }
        return what == 0 ? which : most;
    }

    public int renew(int deed, int n, int q) {
        Deed d = now.world.find(deed);
        if (d == null) return NONE;
        if (n < 1 || n > LAST_RENEWED || isOff(q, LAST_PERCENT)) return BAD;
        for (int mark = 0; mark < planBehind.length; mark++) planBehind[mark] = 0;
        for (int k = n - 1; k >= 0; k--) planFrom(d, k, q);
        int plan = planAt(d.mark);
        return plan >= NO_PLAN ? NOT_ANY : plan % ONE_RENEWED;
    }

    // ---- seen, odds; part 0 above, 1 below the line

    public int see(int deed, int n, boolean isLeft) {
        if (deed == -1) {
            now.seen.size = 0;
            return 0;
        }
        if (now.world.find(deed) == null) return NONE;
        if (isOff(n, LAST_SEEN)) return BAD;
        return now.seen.add(deed, n, isLeft) ? now.seen.size : FULL;
    }

    public int hurries(int what) {
        if (isOff(what, 1)) return NONE;
        int howMany = 0;
        int least = NOT_ANY;
        for (int hurry = LAST_HURRY; hurry >= 0; hurry--) {
            if (isSeenSo(hurry, NONE, 0, 0)) {
                howMany++;
                least = hurry;
            }
        }
        return what == 0 ? howMany : least;
    }

    public int firm(int deed, int what) {
        Deed d = now.world.find(deed);
        if (d == null || isOff(what, 1)) return NONE;
        int howMany = 0;
        int least = NOT_ANY;
        for (int v = LAST_DIGIT; v >= 0; v--) {
            if (isSeenSo(now.world.hurry, deed, v, d.alike)) {
                howMany++;
                least = v;
            }
        }
        return what == 0 ? howMany : least;
    }

    public int alikes(int deed) {
        Deed d = now.world.find(deed);
        if (d == null) return NONE;
        int bits = 0;
        for (int ten = 0; ten <= LAST_DIGIT; ten++) {
            if (isSeenSo(now.world.hurry, deed, d.v, 10 * ten)) bits |= 1 << ten;
        }
        return bits;
    }

    public long odds(int deed, int n, int part) {
        Deed d = now.world.find(deed);
        if (d == null || isOff(n, LAST_AHEAD) || isOff(part, 1)) return NO;
        int left = 0;
        for (int hurry = 0; hurry <= LAST_HURRY; hurry++) {
            one.copyFrom(d);
            goOne(n, hurry);
            if (one.isLeft) left++;
        }
        return lowest(left, LAST_HURRY + 1, part);
    }

    public long mean(int part) {
        if (isOff(part, 1) || now.world.size == 0) return NO;
        return lowest(now.world.traces(), now.world.size, part);
    }

    // ---- plans, books

    public int plan(int what, int n) {
        if (what == -1) {
            now.plan.size = 0;
            return 0;
        }
        if (isOff(what, 3)) return NONE;
        if ((what == 1 || what == 2) && now.world.find(n) == null) return NONE;
        if (what == 3 && isOff(n, LAST_HURRY)) return BAD;
        return now.plan.add(what, n, false) ? now.plan.size : FULL;
    }

    public int done(int what) {
        if (isOff(what, 1)) return NONE;
        trial.copyFrom(now.world);
        for (int i = 0; i < now.plan.size; i++) goStep(now.plan.firstAt(i), now.plan.secondAt(i));
        return what == 0 ? trial.harm : trial.leftBits();
    }

    public int book(int deed, int trace) {
        if (deed == -1) {
            now.book.size = 0;
            return 0;
        }
        if (now.world.find(deed) == null) return NONE;
        if (isOff(trace, LAST_PERCENT)) return BAD;
        return now.book.add(deed, trace, false) ? now.book.size : FULL;
    }

    public int struck() {
        for (int i = 0; i < now.book.size; i++) {
            Deed d = now.world.find(now.book.firstAt(i));
            if (d == null || d.trace != now.book.secondAt(i)) return i;
        }
        return NOT_ANY;
    }

    // ---- acts, the image

    public int act(int deed, int act, int x) {
        bodies.ran = 0;
        Deed d = now.world.find(deed);
        if (d == null) return 0;
        switch (act) {
            case 0: return bodies.clicks(d, d.kind, x, 0);
            case 1: return bodies.pulls(d, d.kind, x, 0);
            case 2: return bodies.looks(d, d.kind, x, 0);
            default: return 0;
        }
    }

    public int trace(int i) {
        return bodies.bodyAt(i);
    }

    public int as(int deed, int k) {
        Deed d = now.world.find(deed);
        if (d == null || isOff(k, TOLD)) return NONE;
        int kind = d.kind;
        for (int level = 0; level < LEVELS; level++) {
            if (kind == k) return d.v;
            kind = above(kind);
        }
        return ANOTHER_KIND;
    }

    public int image() {
        kept.copyFrom(now);
        isKept = true;
        return now.world.size;
    }

    public int undo() {
        if (!isKept) return STATE;
        now.copyFrom(kept);
        return now.world.size;
    }

    public int count(int what) {
        switch (what) {
            case 0: return now.world.size;
            case 1: return now.houses;
            case 2: return now.seen.size;
            case 3: return now.plan.size;
            case 4: return now.book.size;
            case 5: return now.tapeSize;
            case 6: return bodies.ran;
            default: return NONE;
        }
    }

    // ---- what several calls share

    private static boolean isOff(int n, int last) {
        return n < 0 || n > last;
    }

    private static int above(int kind) {
        return kind >= 0 && kind < ABOVE.length ? ABOVE[kind] : NONE;
    }

    private static int within(int n, int last) {
        return Math.max(0, Math.min(last, n));
    }

    private static void copyInts(int[] from, int[] to) {
        for (int i = 0; i < from.length && i < to.length; i++) to[i] = from[i];
    }

    private static long lowest(long top, long bottom, int part) {
        long by = top;
        long rest = bottom;
        for (int i = 0; i < 100 && rest != 0; i++) {
            long next = by % rest;
            by = rest;
            rest = next;
        }
        if (by == 0) return NO;
        return part == 0 ? top / by : bottom / by;
    }

    private void goOne(int n, int hurry) {
        for (int k = 0; k < n; k++) one.goMorning(one.care(now.house, now.world.morning + k), hurry);
    }

    // Whether all of SEEN is so by this HURRY, and by these v and ALIKE of the changed one.
    private boolean isSeenSo(int hurry, int changed, int v, int alike) {
        for (int i = 0; i < now.seen.size; i++) {
            Deed d = now.world.find(now.seen.firstAt(i));
            if (d == null) return false;
            one.copyFrom(d);
            if (d.number == changed) {
                one.v = v;
                one.alike = alike;
            }
            goOne(now.seen.secondAt(i), hurry);
            if (one.isLeft != now.seen.isAt(i)) return false;
        }
        return true;
    }

    private int minutesOf(int bits) {
        int minutes = 0;
        for (int p = 0; p < now.world.size; p++) {
            Deed d = now.world.find(p);
            if (d != null && (bits >> p & 1) != 0) minutes += d.v % 4 + 1;
        }
        return minutes;
    }

    private int worthOf(int bits) {
        int worth = 0;
        for (int p = 0; p < now.world.size; p++) {
            Deed d = now.world.find(p);
            if (d != null && (bits >> p & 1) != 0) {
                worth += Math.max(0, d.doubtAt(LOOK_YARD, now.house.worry)) * (d.v + 1);
            }
        }
        return worth;
    }

    // The best plans from the k-th morning on, by the MARK ahead of it, out of those from the next one on:
    // ALIKE and MORNING go alike by every plan, so MARK is all that tells two of them apart.
    private void planFrom(Deed d, int k, int q) {
        for (int mark = 0; mark < planHere.length; mark++) planHere[mark] = planWithout(d, k, q, mark);
        int renewed = planWithout(d, k, q, LAST_DIGIT) + ONE_RENEWED + (1 << k);
        for (int mark = 0; mark < planHere.length && mark < planBehind.length; mark++) {
            planBehind[mark] = Math.min(planHere[mark], renewed);
        }
    }

    private int planWithout(Deed d, int k, int q, int mark) {
        one.copyFrom(d);
        one.alike = Math.min(LAST_PERCENT, d.alike + k);
        one.mark = mark;
        one.goMorning(one.care(now.house, now.world.morning + k), now.world.hurry);
        return one.trace < q ? NO_PLAN : planAt(one.mark);
    }

    private int planAt(int mark) {
        return mark >= 0 && mark < planBehind.length ? planBehind[mark] : NO_PLAN;
    }

    private void goStep(int what, int n) {
        if (what == 0) trial.goMorning(now.house);
        if (what == 3) trial.hurry = n;
        Deed d = trial.find(n);
        if (d == null) return;
        if (what == 1) d.beLookedAfter();
        if (what == 2) d.mark = LAST_DIGIT;
    }

    // One of DEEDS.
    private static final class Deed {
        int number;
        int kind;
        int v;
        boolean isLeft;
        int trace;
        int alike;
        int mark;
        int checks;
        final int[] turns;

        Deed(int itsNumber) {
            number = itsNumber;
            turns = new int[ROW_LENGTH];
        }

        void start(int itsKind, int itsV) {
            kind = itsKind;
            v = itsV;
            isLeft = false;
            trace = 50;
            alike = 0;
            mark = 0;
            checks = 0;
            for (int k = 0; k < turns.length; k++) turns[k] = 0;
        }

        void copyFrom(Deed other) {
            number = other.number;
            kind = other.kind;
            v = other.v;
            isLeft = other.isLeft;
            trace = other.trace;
            alike = other.alike;
            mark = other.mark;
            checks = other.checks;
            copyInts(other.turns, turns);
        }

        int rowAt(int k) {
            return k >= 0 && k < turns.length ? turns[k] : 0;
        }

        void setRow(int k, int n) {
            if (k >= 0 && k < turns.length) turns[k] = n;
        }

        int care(House house, int morning) {
            int sum = house.sumOf(this, morning);
            switch (kind) {
                case STOVE: return sum + v;
                case DOOR: return sum / 2;
                case IRON: return sum - alike / 10;
                case OVEN: return morning % 7 == 6 ? 0 : sum + v;
                case GATE: return sum / 2 + mark;
                case TOLD: return sum - alike / 10 + rowAt(morning % ROW_LENGTH);
                default: return sum;
            }
        }

        void goMorning(int care, int hurry) {
            isLeft = care < hurry;
            if (isLeft) {
                trace = within(25 - alike, LAST_PERCENT);
            } else {
                trace = within(50 - 2 * alike + 4 * mark, LAST_PERCENT);
                mark = Math.max(0, mark - 1);
            }
            alike = Math.min(LAST_PERCENT, alike + 1);
            checks = 0;
        }

        void beLookedAfter() {
            isLeft = false;
            trace = within(90 - 10 * checks, LAST_PERCENT);
            checks = Math.min(LAST_DIGIT, checks + 1);
            alike = Math.min(LAST_PERCENT, alike + 2);
        }

        int doubtAt(int yard, int worry) {
            return worry * yard - trace;
        }

        int yardBack(int worry) {
            for (int yard = 0; yard <= LAST_YARD; yard++) {
                if (doubtAt(yard, worry) > 0) return yard;
            }
            return NOT_ANY;
        }
    }

    // What mornings change: the DEEDS, and how they stand.
    private static final class World {
        final Deed[] deeds;
        int size;
        int hurry;
        int morning;
        int harm;

        World() {
            deeds = new Deed[MOST_DEEDS];
            for (int p = 0; p < deeds.length; p++) deeds[p] = new Deed(p);
            hurry = 5;
        }

        Deed find(int p) {
            return p >= 0 && p < size && p < deeds.length ? deeds[p] : null;
        }

        boolean addDeed(int kind, int v) {
            if (size < 0 || size >= deeds.length) return false;
            Deed d = deeds[size];
            if (d == null) return false;
            d.start(kind, v);
            size++;
            return true;
        }

        void copyFrom(World other) {
            size = other.size;
            hurry = other.hurry;
            morning = other.morning;
            harm = other.harm;
            for (int p = 0; p < size; p++) {
                Deed d = find(p);
                Deed from = other.find(p);
                if (d != null && from != null) d.copyFrom(from);
            }
        }

        void goMornings(int n, House house) {
            for (int k = 0; k < n; k++) goMorning(house);
        }

        // HARM is held by pass() alone: mornings that are only asked for go beyond.
        void goMorning(House house) {
            for (int p = 0; p < size; p++) {
                Deed d = find(p);
                if (d == null) continue;
                d.goMorning(d.care(house, morning), hurry);
                if (d.isLeft) harm += d.v + 1;
            }
            morning++;
        }

        int leftBits() {
            int bits = 0;
            for (int p = 0; p < size; p++) {
                Deed d = find(p);
                if (d != null && d.isLeft) bits |= 1 << p;
            }
            return bits;
        }

        int traces() {
            int sum = 0;
            for (int p = 0; p < size; p++) {
                Deed d = find(p);
                if (d != null) sum += d.trace;
            }
            return sum;
        }
    }

    // Rows that are told by hand.
    private static final class Rows {
        final int[] first;
        final int[] second;
        final boolean[] is;
        int size;

        Rows(int most) {
            int length = Math.max(0, most);
            first = new int[length];
            second = new int[length];
            is = new boolean[length];
        }

        private boolean has(int i) {
            return i >= 0 && i < first.length && i < second.length && i < is.length;
        }

        boolean add(int a, int b, boolean c) {
            if (!has(size)) return false;
            setAt(size, a, b, c);
            size++;
            return true;
        }

        private void setAt(int i, int a, int b, boolean c) {
            if (!has(i)) return;
            first[i] = a;
            second[i] = b;
            is[i] = c;
        }

        int firstAt(int i) {
            return has(i) ? first[i] : NONE;
        }

        int secondAt(int i) {
            return has(i) ? second[i] : NONE;
        }

        boolean isAt(int i) {
            return has(i) && is[i];
        }

        void copyFrom(Rows other) {
            size = other.size;
            for (int i = 0; i < size; i++) setAt(i, other.firstAt(i), other.secondAt(i), other.isAt(i));
        }
    }

    // All that THE IMAGE holds.
    private static final class Whole {
        final World world;
        final House house;
        int houses;
        final int[] tape;
        int tapeSize;
        final Rows seen;
        final Rows plan;
        final Rows book;

        Whole() {
            world = new World();
            house = new House();
            tape = new int[MOST_SIGNS];
            seen = new Rows(MOST_SEEN);
            plan = new Rows(MOST_PLAN);
            book = new Rows(MOST_BOOK);
        }

        boolean addSign(int sign) {
            if (tapeSize < 0 || tapeSize >= tape.length) return false;
            tape[tapeSize] = sign;
            tapeSize++;
            return true;
        }

        int signAt(int place) {
            return place >= 0 && place < tapeSize && place < tape.length ? tape[place] : NONE;
        }

        void copyFrom(Whole other) {
            world.copyFrom(other.world);
            house.copyFrom(other.house);
            houses = other.houses;
            copyInts(other.tape, tape);
            tapeSize = other.tapeSize;
            seen.copyFrom(other.seen);
            plan.copyFrom(other.plan);
            book.copyFrom(other.book);
        }
    }

    // A HOUSE: its WORRY, and of each heed and haste the n (below 0: haste) and its E as steps on a stack of truths.
    private static final class House {
        int worry;
        final int[] weights;
        final int[] ends;
        int clauses;
        final int[] steps;
        int size;

        House() {
            weights = new int[MOST_CLAUSES];
            ends = new int[MOST_CLAUSES];
            steps = new int[MOST_SIGNS];
            worry = FIRST_WORRY;
        }

        void clear() {
            worry = FIRST_WORRY;
            clauses = 0;
            size = 0;
        }

        void copyFrom(House other) {
            worry = other.worry;
            clauses = other.clauses;
            size = other.size;
            copyInts(other.weights, weights);
            copyInts(other.ends, ends);
            copyInts(other.steps, steps);
        }

        void addStep(int step) {
            if (size < 0 || size >= steps.length) return;
            steps[size] = step;
            size++;
        }

        void addTest(int letter, int sign, int n) {
            addStep(letter | sign << 4 | n << 8);
        }

        void endClause(int weight) {
            if (clauses < 0 || clauses >= weights.length || clauses >= ends.length) return;
            weights[clauses] = weight;
            ends[clauses] = size;
            clauses++;
        }

        int sumOf(Deed d, int morning) {
            int sum = 8;
            int from = 0;
            for (int c = 0; c < clauses && c < weights.length && c < ends.length; c++) {
                if (holds(from, ends[c], d, morning)) sum += weights[c];
                from = ends[c];
            }
            return sum;
        }

        // The stack is one int, the newest truth its lowest bit: at most two wait on each of six levels.
        private boolean holds(int from, int end, Deed d, int morning) {
            int stack = 0;
            for (int i = Math.max(0, from); i < end && i < steps.length; i++) {
                int step = steps[i];
                if (step == NOT) {
                    stack ^= 1;
                } else if (step == BOTH) {
                    stack = stack >> 1 & (stack | ~1);
                } else if (step == EITHER) {
                    stack = stack >> 1 | stack & 1;
                } else {
                    stack = stack << 1 | (isSo(step, d, morning) ? 1 : 0);
                }
            }
            return (stack & 1) != 0;
        }

        private static boolean isSo(int step, Deed d, int morning) {
            int sign = step >> 4 & 15;
            int n = step >> 8;
            int it = measure(step & 15, d, morning);
            if (sign == 0) return it < n;
            return sign == 1 ? it == n : it > n;
        }

        private static int measure(int letter, Deed d, int morning) {
            switch (letter) {
                case 0: return d.number;
                case 1: return d.kind;
                case 2: return d.v;
                case 3: return d.alike / 10;
                case 4: return d.mark;
                default: return morning % 7;
            }
        }
    }

    // Reads THE TAPE into a HOUSE; behind a FAULT nothing more is read.
    private static final class HouseReader {
        final Whole from;
        final House into;
        int place;
        int fault;

        HouseReader(Whole whole, House house) {
            from = whole;
            into = house;
        }

        int readHouse() {
            into.clear();
            place = 0;
            fault = NONE;
            for (int clause = 1; clause <= MOST_CLAUSES; clause++) {
                readClause();
                if (fault >= 0 || place >= from.tapeSize) return fault;
                if (peek() != ';' || clause == MOST_CLAUSES) return place;
                place++;
            }
            return fault;
        }

        private void readClause() {
            int word = wordAhead();
            take(word == WORRY ? "worry " : word == HEED ? "heed " : "haste ");
            int n = readNumber();
            if (word == WORRY) {
                into.worry = n;
                return;
            }
            take(" ");
            if (fault < 0) readEither(0);
            into.endClause(word == HEED ? n : -n);
        }

        private int wordAhead() {
            if (peek() != 'h') return WORRY;
            return from.signAt(place + 1) == 'a' ? HASTE : HEED;
        }

        // E, its & and | in one: an & that waits is always ahead of a | that waits.
        private void readEither(int open) {
            boolean isBoth = false;
            boolean isEither = false;
            for (int i = 0; i <= MOST_SIGNS; i++) {
                readFactor(open);
                if (fault >= 0) return;
                if (isBoth) into.addStep(BOTH);
                isBoth = peek() == '&';
                if (!isBoth) {
                    if (isEither) into.addStep(EITHER);
                    isEither = peek() == '|';
                    if (!isEither) return;
                }
                place++;
            }
        }

        private void readFactor(int open) {
            int sign = peek();
            if (sign != '!' && sign != '(') {
                into.addTest(readOneOf("pkvaud"), readOneOf("<=>"), readNumber());
                return;
            }
            if (open >= MOST_OPEN) {
                fault = place;
                return;
            }
            place++;
            if (sign == '!') {
                readFactor(open + 1);
                into.addStep(NOT);
            } else {
                readEither(open + 1);
                take(")");
            }
        }

        private int readOneOf(String signs) {
            if (fault >= 0) return 0;
            int sign = peek();
            for (int i = 0; i < signs.length(); i++) {
                if (sign == signs.charAt(i)) {
                    place++;
                    return i;
                }
            }
            fault = place;
            return 0;
        }

        private int readNumber() {
            if (fault >= 0) return 0;
            if (!isDigit(peek())) {
                fault = place;
                return 0;
            }
            int n = peek() - '0';
            place++;
            if (n > 0 && isDigit(peek())) {
                n = 10 * n + peek() - '0';
                place++;
            }
            return n;
        }

        private static boolean isDigit(int sign) {
            return sign >= '0' && sign <= '9';
        }

        private void take(String word) {
            for (int i = 0; i < word.length() && fault < 0; i++) {
                if (peek() == word.charAt(i)) {
                    place++;
                } else {
                    fault = place;
                }
            }
        }

        private int peek() {
            return from.signAt(place);
        }
    }

    // ACTS: kind is where the body is sought from: the DEED's own, or the next above the one that said super.
    private static final class Bodies {
        final int[] numbers;
        int ran;

        Bodies() {
            numbers = new int[MOST_BODIES];
        }

        private void begin(int number) {
            if (ran >= 0 && ran < numbers.length) numbers[ran] = number;
            ran++;
        }

        int bodyAt(int i) {
            return i >= 0 && i < ran && i < numbers.length ? numbers[i] : NONE;
        }

        private int clicks(Deed d, int kind, int x, int depth) {
            if (depth > MOST_DEPTH) return 0;
            switch (kind) {
                case DEED:
                    begin(1);
                    return x + d.number;
                case STOVE:
                    begin(11);
                    return clicks(d, above(kind), x * 3, depth + 1);
                case GATE:
                    begin(51);
                    return clicks(d, above(kind), x, depth + 1) ^ d.number;
                default:
                    return clicks(d, above(kind), x, depth + 1);
            }
        }

        private int pulls(Deed d, int kind, int x, int depth) {
            if (depth > MOST_DEPTH) return 0;
            switch (kind) {
                case DEED:
                    begin(2);
                    return clicks(d, d.kind, x, depth + 1) - d.v;
                case DOOR:
                    begin(21);
                    return -pulls(d, above(kind), x, depth + 1);
                case TOLD:
                    begin(61);
                    return pulls(d, above(kind), x, depth + 1) + d.v;
                default:
                    return pulls(d, above(kind), x, depth + 1);
            }
        }

        private int looks(Deed d, int kind, int x, int depth) {
            if (depth > MOST_DEPTH) return 0;
            switch (kind) {
                case DEED:
                    begin(3);
                    return pulls(d, d.kind, x, depth + 1) * 2;
                case IRON:
                    begin(31);
                    return looks(d, above(kind), x, depth + 1) ^ 7;
                case OVEN:
                    begin(41);
                    int looked = looks(d, above(kind), x - 1, depth + 1);
                    return looked + clicks(d, d.kind, 2, depth + 1);
                default:
                    return looks(d, above(kind), x, depth + 1);
            }
        }
    }
}
