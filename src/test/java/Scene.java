import java.util.Arrays;

/** Objects in the states that refusals need, made alike each time, and all that can be seen of one. */
enum Scene {
    /** A new object. */
    BARE,
    /** Three deeds, a house, a begun tape, rows of everything, an image that is otherwise, a trace. */
    SOME,
    /** Six deeds, and no room in the tape, in SEEN, in the plan and in the book; four houses. */
    FULL,
    /** As FULL, with the fifth house. */
    HOUSED,
    /** MORNING 9999. */
    LATE;

    static final String HUNDRED =
        "heed 10 p=1|p=1|p=1|p=1|p=1|p=1|p=1|p=1|p=1|p=1|p=1|p=1|p=1|p=1|p=1|p=1|p=1|p=1|p=1|p=1|p=1|p=1|p=12";

    int deeds() {
        return this == BARE ? 0 : this == SOME || this == LATE ? 3 : 6;
    }

    DidITurnItOff make() {
        DidITurnItOff x = new DidITurnItOff();
        if (this == BARE) return x;
        threeDeeds(x);
        x.image();
        if (this == LATE) goLate(x);
        if (this == FULL || this == HOUSED) fill(x);
        x.pass(this == LATE ? 0 : 2);
        x.look(2);
        x.see(0, 3, (x.on(3, 0) & 1) != 0);
        x.see(1, 0, x.of(1, 2) == 1);
        x.plan(3, 11);
        x.plan(0, 0);
        x.book(0, x.of(0, 3));
        x.book(1, x.of(1, 3));
        if (this == FULL || this == HOUSED) fillRows(x);
        x.act(2, 2, 7);
        return x;
    }

    private static void threeDeeds(DidITurnItOff x) {
        x.deed(2, 3);
        x.deed(6, 7);
        x.deed(4, 0);
        x.row(1, 0, 5);
        x.row(1, 3, 9);
        x.set(0, 2, 4);
        x.set(1, 1, 37);
        x.hurry(7);
        Check.house(x, "worry 3;heed 4 p=0;haste 2 u>3");
        Check.feed(x, "worry 9;heed 5 k=4");
    }

    private static void goLate(DidITurnItOff x) {
        for (int i = 0; i < 166; i++) x.pass(60);
        x.pass(39);
    }

    private void fill(DidITurnItOff x) {
        x.deed(1, 9);
        x.deed(5, 1);
        x.deed(3, 2);
        x.house();
        Check.house(x, "worry 5");
        Check.house(x, "worry 4");
        if (this == HOUSED) Check.house(x, "worry 6");
        Check.feed(x, HUNDRED);
    }

    private static void fillRows(DidITurnItOff x) {
        for (int i = 0; i < 3; i++) x.see(3 + i, 0, x.of(3 + i, 2) == 1);
        for (int i = 0; i < 6; i++) x.plan(i % 3, i % 6);
        for (int i = 0; i < 6; i++) x.book(i, x.of(i, 3));
    }

    /** All that calls can tell of it; it is used up by that. */
    static long[] print(DidITurnItOff x) {
        long[] told = new long[400];
        int n = tell(x, told, 0);
        for (int i = 0; i < 8; i++) told[n++] = x.trace(i);
        told[n++] = x.house();
        told[n++] = x.told(1);
        for (int d = 0; d < 6; d++) told[n++] = x.of(d, 7);
        for (int d = 0; d < 6; d++) {
            for (int k = 0; k < 4; k++) told[n++] = x.row(d, k, 0);
        }
        told[n++] = x.undo();
        return Arrays.copyOf(told, tell(x, told, n));
    }

    private static int tell(DidITurnItOff x, long[] told, int from) {
        int n = from;
        for (int what = 0; what <= 4; what++) told[n++] = x.told(what);
        for (int what = 0; what <= 6; what++) told[n++] = x.count(what);
        for (int d = 0; d < 6; d++) {
            for (int what = 0; what <= 8; what++) told[n++] = x.of(d, what);
            told[n++] = x.alikes(d);
        }
        told[n++] = x.hurries(0);
        told[n++] = x.hurries(1);
        told[n++] = x.done(0);
        told[n++] = x.done(1);
        told[n++] = x.struck();
        return n;
    }
}
