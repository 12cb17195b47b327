/** Promises 22 to 25: PLAN, DONE, BOOK, STRUCK. */
public final class PlansAndBooksTest {
    private static final Check c = new Check();

    public static void main(String[] args) {
        plan();
        done();
        book();
        struck();
        c.end("PlansAndBooksTest");
    }

    private static void plan() {
        DidITurnItOff x = new DidITurnItOff();
        x.deed(0, 0);
        c.due("22: what 4", DidITurnItOff.NONE, x.plan(4, 0));
        c.due("22: what -2", DidITurnItOff.NONE, x.plan(-2, 0));
        c.due("22: no such deed to look after", DidITurnItOff.NONE, x.plan(1, 1));
        c.due("22: no such deed to mark", DidITurnItOff.NONE, x.plan(2, -1));
        c.due("22: HURRY 21", DidITurnItOff.BAD, x.plan(3, 21));
        c.due("22: HURRY -1", DidITurnItOff.BAD, x.plan(3, -1));
        c.due("22: a morning, the other not looked at", 1, x.plan(0, 99));
        c.due("22: to look after", 2, x.plan(1, 0));
        c.due("22: to mark", 3, x.plan(2, 0));
        c.due("22: HURRY", 4, x.plan(3, 20));
        for (int i = 5; i <= 8; i++) c.due("22: row " + i, i, x.plan(0, -7));
        c.due("22: FULL", DidITurnItOff.FULL, x.plan(0, 0));
        c.due("22: NONE ahead of FULL", DidITurnItOff.NONE, x.plan(1, 1));
        c.due("22: BAD ahead of FULL", DidITurnItOff.BAD, x.plan(3, 21));
        c.due("22: eight", 8, x.count(3));
        c.due("22: none then", 0, x.plan(-1, 99));
        c.due("22: none", 0, x.count(3));
        c.due("22: one again", 1, x.plan(3, 0));
    }

    private static void done() {
        DidITurnItOff x = new DidITurnItOff();
        x.deed(0, 2);
        x.deed(5, 1);
        x.pass(1);
        c.due("23: no plan, HARM", 2, x.done(0));
        c.due("23: no plan, LEFT", 2, x.done(1));
        x.plan(1, 1);
        c.due("23: looked after, HARM", 2, x.done(0));
        c.due("23: looked after, LEFT", 0, x.done(1));
        x.plan(0, 99);
        c.due("23: a morning, HARM", 4, x.done(0));
        c.due("23: a morning, LEFT", 2, x.done(1));
        x.plan(2, 1);
        x.plan(0, 0);
        c.due("23: marked, HARM", 4, x.done(0));
        c.due("23: marked, LEFT", 0, x.done(1));
        x.plan(3, 13);
        x.plan(0, 0);
        c.due("23: in a hurry, HARM", 9, x.done(0));
        c.due("23: in a hurry, LEFT", 3, x.done(1));
        c.due("23: what 2", DidITurnItOff.NONE, x.done(2));
        c.due("23: what -1", DidITurnItOff.NONE, x.done(-1));
        c.due("23: nothing changed", 2 + 5 + 2 + 1, x.told(3) + x.told(2) + x.told(4) + x.told(0));
    }

    private static void book() {
        DidITurnItOff x = new DidITurnItOff();
        x.deed(0, 0);
        c.due("24: deed 1", DidITurnItOff.NONE, x.book(1, 100));
        c.due("24: deed -2", DidITurnItOff.NONE, x.book(-2, 0));
        c.due("24: trace 100", DidITurnItOff.BAD, x.book(0, 100));
        c.due("24: trace -1", DidITurnItOff.BAD, x.book(0, -1));
        for (int i = 1; i <= 8; i++) c.due("24: row " + i, i, x.book(0, i == 1 ? 0 : 99));
        c.due("24: FULL", DidITurnItOff.FULL, x.book(0, 0));
        c.due("24: BAD ahead of FULL", DidITurnItOff.BAD, x.book(0, 100));
        c.due("24: eight", 8, x.count(4));
        c.due("24: none then", 0, x.book(-1, 100));
        c.due("24: none", 0, x.count(4));
    }

    private static void struck() {
        DidITurnItOff x = new DidITurnItOff();
        x.deed(0, 0);
        x.deed(0, 0);
        c.due("25: no book", -5, x.struck());
        x.book(0, 50);
        x.book(1, 50);
        x.book(0, 49);
        x.book(1, 48);
        c.due("25: the third", 2, x.struck());
        x.set(0, 0, 49);
        c.due("25: the first", 0, x.struck());
        x.book(-1, 0);
        c.due("25: none told", -5, x.struck());
        x.book(0, 49);
        x.book(1, 50);
        c.due("25: all so", -5, x.struck());
        x.look(1);
        c.due("25: no more", 1, x.struck());
    }
}
