import java.util.function.Consumer;

/** The edges of ACTS, THE TRACE, as, THE IMAGE and counts (promises 26 to 31). */
public final class EdgesOfActsTest {
    private static final Check c = new Check();
    private static final int[] XS = {0, 1, -1, Integer.MIN_VALUE, Integer.MIN_VALUE + 1, Integer.MAX_VALUE,
        Integer.MAX_VALUE - 1, 0x2AAAAAAB, 0x40000000, 0x55555555, 0x55555556};

    public static void main(String[] args) {
        actsWrap();
        actsOfLastDeed();
        negationOfTheLeast();
        traceIsOfTheLatest();
        bodiesOfEach();
        actsAndTheRest();
        asItself();
        imageOfNothing();
        imageOfFull();
        undoFromFull();
        imageOfEach();
        imageStays();
        imageIsTheLatest();
        traceIsNotInTheImage();
        countsOfEach();
        manyCalls();
        c.end("EdgesOfActsTest");
    }

    // Acts in longs: what wraps in ints is cut off at the end, or ahead of a ^, which looks at the lower bits alone.

    private static long clicks(int kind, int i, long x) {
        if (kind == 1 || kind == 4) return 3 * x + i;
        return kind == 5 ? x + i ^ i : x + i;
    }

    private static long pulls(int kind, int i, int v, long x) {
        if (kind == 2 || kind == 5) return v - clicks(kind, i, x);
        return kind == 6 ? clicks(kind, i, x) : clicks(kind, i, x) - v;
    }

    private static long looks(int kind, int i, int v, long x) {
        if (kind == 4) return 2 * pulls(kind, i, v, x - 1) + clicks(kind, i, 2);
        long looked = 2 * pulls(kind, i, v, x);
        return kind == 3 || kind == 6 ? looked ^ 7 : looked;
    }

    private static void actsAre(DidITurnItOff x, int deed, int kind, int v) {
        for (int by : XS) {
            String told = "26: kind " + kind + ", deed " + deed + ", x " + by;
            c.due(told + ", clicks", (int) clicks(kind, deed, by), x.act(deed, 0, by));
            c.due(told + ", pulls", (int) pulls(kind, deed, v, by), x.act(deed, 1, by));
            c.due(told + ", looks", (int) looks(kind, deed, v, by), x.act(deed, 2, by));
        }
    }

    private static void actsWrap() {
        for (int kind = 0; kind <= 6; kind++) {
            for (int v : new int[] {0, 9}) {
                DidITurnItOff x = new DidITurnItOff();
                x.deed(kind, v);
                actsAre(x, 0, kind, v);
            }
        }
    }

    private static void actsOfLastDeed() {
        for (int kind = 0; kind <= 6; kind++) {
            DidITurnItOff x = new DidITurnItOff();
            for (int deed = 0; deed < 5; deed++) x.deed(0, 0);
            x.deed(kind, 4);
            actsAre(x, 5, kind, 4);
        }
    }

    private static void negationOfTheLeast() {
        DidITurnItOff x = new DidITurnItOff();
        x.deed(2, 0);
        x.deed(2, 9);
        c.due("26: the least, negated", Integer.MIN_VALUE, x.act(0, 1, Integer.MIN_VALUE));
        c.due("26: the greatest, negated", -Integer.MAX_VALUE, x.act(0, 1, Integer.MAX_VALUE));
        c.due("26: below the least", -(Integer.MAX_VALUE - 7), x.act(1, 1, Integer.MIN_VALUE));
        c.due("26: twice the least", 0, x.act(0, 2, Integer.MIN_VALUE));
        c.due("26: twice the half", Integer.MIN_VALUE, x.act(0, 2, 1 << 30));
    }

    // ---- the trace

    private static void bodies(DidITurnItOff x, int... want) {
        c.due("31: bodies", want.length, x.count(6));
        for (int i = 0; i < want.length; i++) c.due("27: body " + i, want[i], x.trace(i));
        for (int i : Check.beyond(0, want.length - 1)) c.due("27: no body " + i, -1, x.trace(i));
        for (int i = want.length; i <= 20; i++) c.due("27: no body " + i, -1, x.trace(i));
    }

    private static void traceIsOfTheLatest() {
        DidITurnItOff x = new DidITurnItOff();
        bodies(x);
        x.deed(4, 0);
        x.deed(0, 0);
        bodies(x);
        x.act(0, 2, 0);
        bodies(x, 41, 3, 2, 11, 1, 11, 1);
        x.act(1, 0, 0);
        bodies(x, 1);
        x.act(0, 2, 9);
        x.act(1, 1, 0);
        bodies(x, 2, 1);
        x.act(2, 0, 0);
        bodies(x);
        x.act(0, 0, 0);
        bodies(x, 11, 1);
        x.act(0, 3, 0);
        bodies(x);
    }

    /** Seven bodies are the most that one act runs: all are kept. */
    private static void bodiesOfEach() {
        String[][] bodies = {{"1", "2 1", "3 2 1"}, {"11 1", "2 11 1", "3 2 11 1"}, {"1", "21 2 1", "3 21 2 1"},
            {"1", "2 1", "31 3 2 1"}, {"11 1", "2 11 1", "41 3 2 11 1 11 1"}, {"51 1", "21 2 51 1", "3 21 2 51 1"},
            {"1", "61 2 1", "31 3 61 2 1"}};
        for (int kind = 0; kind <= 6; kind++) {
            DidITurnItOff x = new DidITurnItOff();
            x.deed(kind, 1);
            for (int act = 0; act <= 2; act++) {
                x.act(0, act, 1);
                String[] want = bodies[kind][act].split(" ");
                c.due("31: bodies of kind " + kind + ", act " + act, want.length, x.count(6));
                for (int i = 0; i <= 20; i++) {
                    int body = i < want.length ? Integer.parseInt(want[i]) : -1;
                    c.due("27: kind " + kind + ", act " + act + ", body " + i, body, x.trace(i));
                }
            }
        }
    }

    private static void actsAndTheRest() {
        DidITurnItOff x = Scene.SOME.make();
        for (int act = 0; act <= 2; act++) {
            for (int deed = 0; deed < 3; deed++) x.act(deed, act, Integer.MAX_VALUE);
        }
        x.act(2, 2, 7);
        c.same("26: acts change nothing else", Scene.print(Scene.SOME.make()), Scene.print(x));
    }

    // ---- as

    private static void asItself() {
        String[] kinds = {"0", "10", "20", "30", "410", "520", "630"};
        for (int kind = 0; kind <= 6; kind++) {
            for (int v : new int[] {0, 9}) {
                DidITurnItOff x = new DidITurnItOff();
                x.deed(kind, v);
                for (int k = 0; k <= 6; k++) {
                    c.due("28: kind " + kind + " as " + k, kinds[kind].indexOf('0' + k) >= 0 ? v : -6, x.as(0, k));
                }
                for (int k : Check.beyond(0, 6)) c.due("28: k " + k, -1, x.as(0, k));
            }
        }
    }

    // ---- the image

    private static void imageOfNothing() {
        DidITurnItOff x = new DidITurnItOff();
        c.due("30: none was taken", -3, x.undo());
        c.due("29: of nothing", 0, x.image());
        DidITurnItOff y = Scene.SOME.make();
        c.due("30: of three", 3, y.undo());
        x.deed(1, 1);
        x.hurry(0);
        x.pass(3);
        Check.house(x, "worry 7");
        Check.feed(x, "worry");
        x.see(0, 0, true);
        x.plan(0, 0);
        x.book(0, 3);
        c.due("30: of nothing", 0, x.undo());
        DidITurnItOff untouched = new DidITurnItOff();
        untouched.image();
        c.same("30: all is as in a new one", Scene.print(untouched), Scene.print(x));
    }

    private static void imageOfFull() {
        DidITurnItOff x = Scene.FULL.make();
        long[] rows = rows(x);
        c.due("29: of six", 6, x.image());
        seeOthers(x);
        planOthers(x);
        bookOthers(x);
        x.house();
        x.pass(60);
        x.hurry(0);
        for (int deed = 0; deed < 6; deed++) {
            x.set(deed, 0, 1);
            x.set(deed, 2, 1);
            x.look(deed);
        }
        for (int k = 0; k < 4; k++) x.row(1, k, 2);
        c.due("30: of six", 6, x.undo());
        c.same("30: what was full is full", rows, rows(x));
        c.due("30: no sign more", -4, x.feed(1));
        c.due("30: no DEED more", -4, x.deed(0, 0));
        c.due("30: no row of SEEN more", -4, x.see(0, 0, true));
        c.due("30: no row of the PLAN more", -4, x.plan(0, 0));
        c.due("30: no row of BOOK more", -4, x.book(0, 0));
        c.due("30: the hundred signs", 4, x.house());
        c.due("30: a house, full then", -4, x.house());
    }

    private static long[] rows(DidITurnItOff x) {
        long[] told = new long[24];
        int n = 0;
        for (int what = 0; what <= 5; what++) told[n++] = x.count(what);
        for (int what = 0; what <= 4; what++) told[n++] = x.told(what);
        for (int deed = 0; deed < 6; deed++) told[n++] = x.of(deed, 3);
        told[n++] = x.struck();
        told[n++] = x.hurries(0);
        told[n++] = x.hurries(1);
        told[n++] = x.done(0);
        told[n++] = x.done(1);
        return told;
    }

    private static void undoFromFull() {
        DidITurnItOff x = Scene.HOUSED.make();
        c.due("30: from six to three", 3, x.undo());
        c.due("30: room for HOUSES", 1, x.count(1));
        c.due("30: THE TAPE as it was", 18, x.count(5));
        c.due("30: SEEN as it was", 0, x.count(2));
        c.due("30: PLAN as it was", 0, x.count(3));
        c.due("30: BOOK as it was", 0, x.count(4));
        c.due("30: no fourth DEED", -999999, x.of(3, 0));
        c.due("30: none of it LEFT", 0, x.told(4));
        c.due("30: MORNING", 0, x.told(0));
        for (int house = 1; house < 5; house++) {
            c.due("30: house " + house, house, house == 1 ? x.house() : Check.house(x, "worry 1"));
        }
        c.due("30: no sixth", -4, x.house());
        for (int deed = 3; deed < 6; deed++) c.due("30: DEED " + deed, deed, x.deed(0, 0));
        c.due("30: no seventh", -4, x.deed(0, 0));
    }

    /** Each call that changes something, alone: it shows, and undo() takes it back. */
    private static void imageOfEach() {
        undone("feed", x -> x.feed('5'));
        undone("house", x -> x.house());
        undone("a FAULT", x -> Check.house(x, "?"));
        undone("deed", x -> x.deed(0, 0));
        undone("row", x -> x.row(1, 2, 4));
        undone("TRACE", x -> x.set(2, 0, 1));
        undone("ALIKE", x -> x.set(2, 1, 60));
        undone("MARK", x -> x.set(2, 2, 8));
        undone("hurry", x -> x.hurry(6));
        undone("look", x -> x.look(1));
        undone("CHECKS", x -> x.look(2));
        undone("pass", x -> x.pass(1));
        undone("see", x -> x.see(2, 0, true));
        undone("SEEN, none", x -> x.see(-1, 0, true));
        undone("SEEN, others", EdgesOfActsTest::seeOthers);
        undone("plan", x -> x.plan(0, 0));
        undone("PLAN, none", x -> x.plan(-1, 0));
        undone("PLAN, others", EdgesOfActsTest::planOthers);
        undone("book", x -> x.book(2, 1));
        undone("BOOK, none", x -> x.book(-1, 0));
        undone("BOOK, others", EdgesOfActsTest::bookOthers);
    }

    private static void undone(String told, Consumer<DidITurnItOff> change) {
        long[] was = Scene.print(imaged());
        DidITurnItOff x = imaged();
        change.accept(x);
        long[] shown = Scene.print(x);
        boolean isOther = false;
        for (int i = 0; i < was.length; i++) isOther |= was[i] != shown[i];
        c.holds("29: it shows: " + told, isOther);
        DidITurnItOff y = imaged();
        change.accept(y);
        c.due("30: deeds behind " + told, 3, y.undo());
        c.same("30: taken back: " + told, was, Scene.print(y));
    }

    private static DidITurnItOff imaged() {
        DidITurnItOff x = Scene.SOME.make();
        x.image();
        return x;
    }

    private static void seeOthers(DidITurnItOff x) {
        x.see(-1, 0, true);
        x.see(2, 0, x.of(2, 2) == 1);
        x.see(2, 7, true);
    }

    private static void planOthers(DidITurnItOff x) {
        x.plan(-1, 0);
        x.plan(1, 0);
        x.plan(1, 1);
    }

    private static void bookOthers(DidITurnItOff x) {
        x.book(-1, 0);
        x.book(2, 1);
        x.book(2, 2);
    }

    private static void imageStays() {
        DidITurnItOff x = new DidITurnItOff();
        x.deed(0, 0);
        x.image();
        for (int round = 0; round < 3; round++) {
            x.deed(1, 1);
            x.pass(1);
            x.set(0, 2, 5);
            c.due("30: round " + round, 1, x.undo());
            c.due("30: again, round " + round, 1, x.undo());
            c.due("30: MORNING, round " + round, 0, x.told(0));
            c.due("30: MARK, round " + round, 0, x.of(0, 5));
        }
    }

    private static void imageIsTheLatest() {
        DidITurnItOff x = new DidITurnItOff();
        for (int deed = 0; deed < 6; deed++) {
            c.due("29: deeds", deed, x.image());
            x.deed(deed, deed);
        }
        c.due("30: the latest", 5, x.undo());
        c.due("30: of the fifth", 4, x.of(4, 0));
        c.due("30: no sixth", -999999, x.of(5, 0));
        c.due("29: taken behind undo", 5, x.image());
        x.deed(0, 0);
        c.due("30: that", 5, x.undo());
    }

    private static void traceIsNotInTheImage() {
        DidITurnItOff x = new DidITurnItOff();
        x.deed(4, 0);
        x.act(0, 2, 1);
        x.image();
        x.act(0, 0, 1);
        x.undo();
        bodies(x, 11, 1);
        x.image();
        bodies(x, 11, 1);
        DidITurnItOff gone = new DidITurnItOff();
        gone.image();
        gone.deed(5, 0);
        gone.act(0, 1, 1);
        c.due("30: the DEED is gone", 0, gone.undo());
        bodies(gone, 21, 2, 51, 1);
    }

    // ---- counts

    private static void countsAre(DidITurnItOff x, int... want) {
        for (int what = 0; what <= 6; what++) c.due("31: count(" + what + ")", want[what], x.count(what));
        for (int what : Check.beyond(0, 6)) c.due("31: count(" + what + ")", -1, x.count(what));
    }

    private static void countsOfEach() {
        countsAre(Scene.BARE.make(), 0, 0, 0, 0, 0, 0, 0);
        countsAre(Scene.SOME.make(), 3, 1, 2, 2, 2, 18, 7);
        countsAre(Scene.FULL.make(), 6, 4, 5, 8, 8, 100, 7);
        countsAre(Scene.HOUSED.make(), 6, 5, 5, 8, 8, 100, 7);
        DidITurnItOff x = Scene.HOUSED.make();
        x.undo();
        countsAre(x, 3, 1, 0, 0, 0, 18, 7);
        x.house();
        x.act(3, 0, 0);
        countsAre(x, 3, 2, 0, 0, 0, 0, 0);
    }

    /** 512 calls are promised: the last one is as good as the first. */
    private static void manyCalls() {
        DidITurnItOff x = new DidITurnItOff();
        x.deed(5, 9);
        for (int call = 2; call <= 511; call++) c.due("26: call " + call, call, x.act(0, 0, call));
        c.due("31: call 512", 2, x.count(6));
    }
}
