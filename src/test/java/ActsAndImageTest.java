/** Promises 26 to 31: ACTS, THE TRACE, as, THE IMAGE, count. */
public final class ActsAndImageTest {
    private static final Check c = new Check();

    public static void main(String[] args) {
        acts();
        actsOfNone();
        as();
        image();
        imageHoldsAll();
        count();
        c.end("ActsAndImageTest");
    }

    /** DEED 2 of that KIND, v 5: the answer to an act with 10, and the bodies. */
    private static void act(int kind, int act, int want, int... bodies) {
        DidITurnItOff x = new DidITurnItOff();
        x.deed(0, 0);
        x.deed(0, 0);
        x.deed(kind, 5);
        String told = "26: kind " + kind + ", act " + act;
        c.due(told, want, x.act(2, act, 10));
        c.due(told + ", bodies", bodies.length, x.count(6));
        for (int i = 0; i < bodies.length; i++) c.due("27: " + told + ", body " + i, bodies[i], x.trace(i));
        c.due("27: " + told + ", behind the last", DidITurnItOff.NONE, x.trace(bodies.length));
        c.due("27: " + told + ", ahead of the first", DidITurnItOff.NONE, x.trace(-1));
    }

    private static void acts() {
        act(0, 0, 12, 1);
        act(0, 1, 7, 2, 1);
        act(0, 2, 14, 3, 2, 1);
        act(1, 0, 32, 11, 1);
        act(1, 1, 27, 2, 11, 1);
        act(1, 2, 54, 3, 2, 11, 1);
        act(2, 0, 12, 1);
        act(2, 1, -7, 21, 2, 1);
        act(2, 2, -14, 3, 21, 2, 1);
        act(3, 0, 12, 1);
        act(3, 1, 7, 2, 1);
        act(3, 2, 14 ^ 7, 31, 3, 2, 1);
        act(4, 0, 32, 11, 1);
        act(4, 1, 27, 2, 11, 1);
        act(4, 2, 2 * (27 + 2 - 5) + 8, 41, 3, 2, 11, 1, 11, 1);
        act(5, 0, 12 ^ 2, 51, 1);
        act(5, 1, -((12 ^ 2) - 5), 21, 2, 51, 1);
        act(5, 2, -2 * ((12 ^ 2) - 5), 3, 21, 2, 51, 1);
        act(6, 0, 12, 1);
        act(6, 1, 12, 61, 2, 1);
        act(6, 2, 24 ^ 7, 31, 3, 61, 2, 1);
    }

    private static void actsOfNone() {
        DidITurnItOff x = new DidITurnItOff();
        c.due("27: no act yet", DidITurnItOff.NONE, x.trace(0));
        x.deed(1, 1);
        c.due("26: wrapping", Integer.MAX_VALUE * 3, x.act(0, 0, Integer.MAX_VALUE));
        c.due("26: wrapping, twice", (Integer.MIN_VALUE * 3 - 1) * 2, x.act(0, 2, Integer.MIN_VALUE));
        for (int[] off : new int[][] {{1, 0}, {-1, 0}, {0, 3}, {0, -1}}) {
            x.act(0, 0, 1);
            c.due("26: deed " + off[0] + ", act " + off[1], 0, x.act(off[0], off[1], 7));
            c.due("26: no TRACE then", 0, x.count(6));
            c.due("27: no TRACE then", DidITurnItOff.NONE, x.trace(0));
        }
    }

    private static void as() {
        DidITurnItOff x = new DidITurnItOff();
        int[] above = {0, 0, 0, 0, 1, 2, 3};
        for (int kind = 1; kind <= 6; kind++) x.deed(kind, kind + 1);
        for (int kind = 1; kind <= 6; kind++) {
            for (int k = 0; k <= 6; k++) {
                boolean isOne = k == 0 || k == kind || k == above[kind];
                c.due("28: kind " + kind + " as " + k, isOne ? kind + 1 : -6, x.as(kind - 1, k));
            }
        }
        c.due("28: k 7", DidITurnItOff.NONE, x.as(0, 7));
        c.due("28: k -1", DidITurnItOff.NONE, x.as(0, -1));
        c.due("28: deed 6", DidITurnItOff.NONE, x.as(6, 0));
        c.due("28: deed -1", DidITurnItOff.NONE, x.as(-1, 0));
        DidITurnItOff y = new DidITurnItOff();
        y.deed(0, 9);
        c.due("28: DEED as DEED", 9, y.as(0, 0));
        c.due("28: DEED as STOVE", -6, y.as(0, 1));
    }

    private static void image() {
        DidITurnItOff x = new DidITurnItOff();
        c.due("30: there is none", DidITurnItOff.STATE, x.undo());
        c.due("29: no deeds", 0, x.image());
        x.deed(1, 1);
        c.due("30: none again", 0, x.undo());
        c.due("30: none", 0, x.count(0));
        x.deed(6, 4);
        x.row(0, 2, 8);
        c.due("29: one", 1, x.image());
        x.row(0, 2, 1);
        x.deed(3, 3);
        c.due("30: one", 1, x.undo());
        c.due("30: its KIND", 6, x.of(0, 0));
        c.due("30: its ROW", 8, x.row(0, 2, 8));
        x.deed(2, 3);
        c.due("30: once more", 1, x.undo());
        c.due("30: no second", -999999, x.of(1, 0));
        x.deed(6, 0);
        x.row(1, 0, 3);
        x.row(1, 3, 3);
        x.undo();
        x.deed(6, 0);
        c.due("30: a new one's ROW, 0", 0, x.row(1, 0, 3));
        c.due("30: a new one's ROW, 3", 0, x.row(1, 3, 3));
        x.undo();
        x.see(0, 0, false);
        x.plan(3, 1);
        x.book(0, 50);
        x.image();
        x.see(-1, 0, false);
        x.see(0, 0, true);
        x.plan(-1, 0);
        x.plan(0, 0);
        x.book(-1, 0);
        x.book(0, 1);
        x.hurry(20);
        c.due("29: SEEN, PLAN and BOOK are told anew", 0 + 5 + 0, x.hurries(0) + x.done(0) + x.struck());
        x.undo();
        c.due("30: SEEN's row", 21, x.hurries(0));
        c.due("30: PLAN's row", 0, x.done(0));
        c.due("30: BOOK's row", -5, x.struck());
    }

    private static void imageHoldsAll() {
        DidITurnItOff x = new DidITurnItOff();
        x.deed(2, 3);
        x.deed(1, 7);
        x.set(1, 2, 6);
        x.pass(2);
        x.look(1);
        Check.house(x, "worry 3;heed 4 p=0");
        Check.feed(x, "worry 9");
        x.see(0, 1, true);
        x.plan(3, 11);
        x.book(0, 24);
        int[] was = all(x);
        x.image();
        x.act(1, 2, 4);
        change(x);
        int[] changed = all(x);
        for (int i = 0; i < was.length; i++) c.holds("29: value " + i + " changes", was[i] != changed[i]);
        c.due("30: deeds", 2, x.undo());
        int[] back = all(x);
        for (int i = 0; i < was.length; i++) c.due("30: value " + i, was[i], back[i]);
        c.due("30: THE TRACE stays", 4, x.count(6));
        c.due("30: its last body stays", 1, x.trace(3));
        c.due("30: THE TAPE's signs", 1, x.house());
        c.due("30: it says worry 9", 9, x.told(1));
        c.due("30: BOOK", 1, x.book(-1, 0) + 1);
        x.undo();
        c.due("30: the image stays", was[4], x.told(3));
    }

    private static void change(DidITurnItOff x) {
        x.deed(0, 0);
        x.feed('x');
        x.house();
        Check.house(x, "worry 50");
        Check.feed(x, "wor");
        x.hurry(20);
        x.pass(1);
        x.set(1, 0, 7);
        x.set(1, 1, 77);
        x.set(1, 2, 9);
        x.look(1);
        x.look(1);
        x.pass(1);
        x.see(0, 0, false);
        x.plan(0, 0);
        x.book(0, 1);
    }

    private static int[] all(DidITurnItOff x) {
        return new int[] {x.told(0), x.told(1), x.told(2), x.told(4), x.told(3), x.count(0), x.count(1), x.count(2),
            x.count(3), x.count(4), x.count(5), x.of(1, 2), x.of(1, 3), x.of(1, 4), x.of(1, 5), x.of(1, 6), x.of(0, 7),
            x.of(0, 8), x.struck(), x.hurries(0), x.done(0)};
    }

    private static void count() {
        DidITurnItOff x = new DidITurnItOff();
        x.deed(4, 0);
        x.deed(4, 0);
        Check.house(x, "worry 1");
        Check.feed(x, "abcde");
        x.see(0, 0, false);
        x.see(0, 0, false);
        x.see(0, 0, false);
        x.plan(0, 0);
        x.plan(0, 0);
        x.plan(0, 0);
        x.plan(0, 0);
        x.book(0, 0);
        x.book(0, 0);
        x.book(0, 0);
        x.book(0, 0);
        x.book(0, 0);
        x.book(0, 0);
        x.act(0, 2, 0);
        int[] want = {2, 1, 3, 4, 6, 5, 7};
        for (int what = 0; what <= 6; what++) c.due("31: count(" + what + ")", want[what], x.count(what));
        c.due("31: what 7", DidITurnItOff.NONE, x.count(7));
        c.due("31: what -1", DidITurnItOff.NONE, x.count(-1));
    }
}
