/** Promises 13 to 15: ON, LOOK, RENEW. */
public final class MorningsToComeTest {
    private static final Check c = new Check();

    public static void main(String[] args) {
        on();
        onBeyond();
        best();
        renew();
        c.end("MorningsToComeTest");
    }

    private static void on() {
        DidITurnItOff x = new DidITurnItOff();
        x.deed(0, 1);
        x.deed(2, 3);
        c.due("13: LEFT now", 0, x.on(0, 0));
        c.due("13: LEFT", 2, x.on(3, 0));
        c.due("13: HARM", 12, x.on(3, 1));
        c.due("13: TRACE of 0", 50 - 4, x.on(3, 10));
        c.due("13: TRACE of 1", 25 - 2, x.on(3, 11));
        c.due("13: TRACE of 1, now", 50, x.on(0, 11));
        c.due("13: ALIKE of 0", 60, x.on(60, 20));
        c.due("13: ALIKE of 1", 3, x.on(3, 21));
        for (int what : new int[] {-1, 2, 9, 12, 19, 22, 26, Integer.MIN_VALUE, Integer.MAX_VALUE}) {
            c.due("13: what " + what, DidITurnItOff.NONE, x.on(61, what));
        }
        for (int what : new int[] {0, 1, 10, 11, 20, 21}) {
            c.due("13: n 61, what " + what, DidITurnItOff.BAD, x.on(61, what));
            c.due("13: n -1, what " + what, DidITurnItOff.BAD, x.on(-1, what));
        }
        c.due("13: nothing changed", 0, x.told(0) + x.told(3) + x.told(4) + x.of(0, 4));
    }

    private static void onBeyond() {
        DidITurnItOff x = new DidITurnItOff();
        x.deed(6, 0);
        for (int k = 0; k < 4; k++) x.row(0, k, k == 1 ? 0 : 9);
        for (int i = 0; i < 166; i++) x.pass(60);
        x.pass(39);
        x.hurry(5);
        // MORNINGS 9999, 10000, 10001: the row at 3, 0, 1; SUM 8, less 9.
        c.due("13: LEFT beyond 9999", 0, x.on(2, 0));
        c.due("13: LEFT further", 1, x.on(3, 0));
    }

    private static void best() {
        DidITurnItOff x = new DidITurnItOff();
        c.due("14: no deeds", 0, x.best(30, 0) + x.best(30, 1));
        int[] v = {0, 3, 4, 7, 9, 9};
        int[] trace = {0, 0, 0, 0, 40, 99};
        for (int p = 0; p < 6; p++) {
            x.deed(0, v[p]);
            x.set(p, 0, trace[p]);
        }
        // Minutes 1, 4, 1, 4, 2, 2; worth 40, 160, 200, 320, 0, 0.
        c.due("14: which in 0", 0, x.best(0, 0));
        c.due("14: how much in 0", 0, x.best(0, 1));
        c.due("14: which in 1", 4, x.best(1, 0));
        c.due("14: how much in 1", 200, x.best(1, 1));
        c.due("14: which in 2", 5, x.best(2, 0));
        c.due("14: which in 5", 12, x.best(5, 0));
        c.due("14: how much in 5", 520, x.best(5, 1));
        c.due("14: which in 30, none that is worth nothing", 15, x.best(30, 0));
        c.due("14: how much in 30", 720, x.best(30, 1));
        x.set(1, 0, 20);
        x.set(3, 0, 30);
        // Now 1 and 3 are worth 80 each, in 4 minutes each.
        c.due("14: the least bits of several", 7, x.best(6, 0));
        c.due("14: what 2", DidITurnItOff.NONE, x.best(31, 2));
        c.due("14: what -1", DidITurnItOff.NONE, x.best(0, -1));
        c.due("14: 31 minutes", DidITurnItOff.BAD, x.best(31, 1));
        c.due("14: -1 minutes", DidITurnItOff.BAD, x.best(-1, 0));
    }

    private static void renew() {
        DidITurnItOff x = new DidITurnItOff();
        x.deed(0, 1);
        c.due("15: none is needed", 0, x.renew(0, 8, 36));
        // Behind morning k: 50 - 2k + 4 MARK.
        c.due("15: the least of the last", 1, x.renew(0, 8, 37));
        c.due("15: the first", 1, x.renew(0, 1, 86));
        c.due("15: too much", -5, x.renew(0, 1, 87));
        c.due("15: both", 3, x.renew(0, 2, 84));
        c.due("15: one of two", 1, x.renew(0, 2, 80));
        c.due("15: two of eight", 17, x.renew(0, 8, 60));
        x.set(0, 2, 9);
        c.due("15: it has a MARK", 0, x.renew(0, 2, 80));
        x.hurry(20);
        c.due("15: left, all the same", -5, x.renew(0, 1, 26));
        c.due("15: left, enough", 0, x.renew(0, 1, 25));
        c.due("15: deed 1", DidITurnItOff.NONE, x.renew(1, 0, 0));
        c.due("15: deed -1", DidITurnItOff.NONE, x.renew(-1, 1, 0));
        c.due("15: n 0", DidITurnItOff.BAD, x.renew(0, 0, 0));
        c.due("15: n 9", DidITurnItOff.BAD, x.renew(0, 9, 0));
        c.due("15: q -1", DidITurnItOff.BAD, x.renew(0, 1, -1));
        c.due("15: q 100", DidITurnItOff.BAD, x.renew(0, 1, 100));
        DidITurnItOff oven = new DidITurnItOff();
        oven.deed(4, 0);
        oven.pass(5);
        // MORNINGS 5 and 6: on the second it is left, ALIKE 6.
        c.due("15: an OVEN that is left", 0, oven.renew(0, 2, 19));
        c.due("15: an OVEN that is left, more", -5, oven.renew(0, 2, 20));
        DidITurnItOff gate = new DidITurnItOff();
        gate.deed(5, 0);
        gate.hurry(12);
        // A GATE is done by its MARK alone: 4 and 9, 4 and 8, then it is left.
        c.due("15: a GATE", 5, gate.renew(0, 4, 26));
        c.due("15: nothing changed", 0, gate.of(0, 5) + gate.told(0));
    }
}
