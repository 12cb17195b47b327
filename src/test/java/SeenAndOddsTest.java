/** Promises 16 to 21: SEEN, HURRIES, FIRM, ALIKES, ODDS, MEAN. */
public final class SeenAndOddsTest {
    private static final Check c = new Check();

    public static void main(String[] args) {
        see();
        hurries();
        firm();
        alikes();
        odds();
        mean();
        c.end("SeenAndOddsTest");
    }

    private static void see() {
        DidITurnItOff x = new DidITurnItOff();
        x.deed(0, 0);
        c.due("16: deed 1", DidITurnItOff.NONE, x.see(1, 21, true));
        c.due("16: deed -2", DidITurnItOff.NONE, x.see(-2, 0, true));
        c.due("16: n 21", DidITurnItOff.BAD, x.see(0, 21, true));
        c.due("16: n -1", DidITurnItOff.BAD, x.see(0, -1, true));
        for (int i = 1; i <= 5; i++) c.due("16: row " + i, i, x.see(0, 20, false));
        c.due("16: FULL", DidITurnItOff.FULL, x.see(0, 0, false));
        c.due("16: BAD ahead of FULL", DidITurnItOff.BAD, x.see(0, 21, false));
        c.due("16: five", 5, x.count(2));
        c.due("16: none then", 0, x.see(-1, 99, true));
        c.due("16: none", 0, x.count(2));
        c.due("16: one again", 1, x.see(0, 0, false));
    }

    private static void hurries() {
        DidITurnItOff x = new DidITurnItOff();
        x.deed(0, 0);
        x.deed(1, 6);
        c.due("17: nothing seen", 21, x.hurries(0));
        c.due("17: the least", 0, x.hurries(1));
        x.see(0, 1, true);
        c.due("17: above 8", 12, x.hurries(0));
        c.due("17: the least above 8", 9, x.hurries(1));
        x.see(1, 20, false);
        c.due("17: till 14", 6, x.hurries(0));
        x.see(0, 0, false);
        c.due("17: as it is now", 6, x.hurries(0));
        x.see(1, 0, true);
        c.due("17: not as it is now", 0, x.hurries(0));
        c.due("17: none", -5, x.hurries(1));
        c.due("17: what 2", DidITurnItOff.NONE, x.hurries(2));
        c.due("17: what -1", DidITurnItOff.NONE, x.hurries(-1));
        c.due("17: HURRY stays", 5, x.told(2));
        DidITurnItOff oven = new DidITurnItOff();
        oven.deed(4, 0);
        oven.see(0, 7, true);
        oven.see(0, 6, false);
        c.due("17: an OVEN", 8, oven.hurries(0));
        oven.pass(1);
        c.due("17: behind mornings from now, not from when it was told", 0, oven.hurries(0));
    }

    private static void firm() {
        DidITurnItOff x = new DidITurnItOff();
        x.deed(1, 9);
        x.deed(0, 0);
        x.hurry(12);
        c.due("18: nothing seen", 10, x.firm(0, 0));
        x.see(0, 3, false);
        c.due("18: v of 4 and more", 6, x.firm(0, 0));
        c.due("18: the least", 4, x.firm(0, 1));
        c.due("18: the other's v is all one", 10, x.firm(1, 0));
        x.see(1, 1, false);
        c.due("18: the other is left", 0, x.firm(0, 0));
        c.due("18: none", -5, x.firm(0, 1));
        c.due("18: deed 2", DidITurnItOff.NONE, x.firm(2, 0));
        c.due("18: deed -1", DidITurnItOff.NONE, x.firm(-1, 0));
        c.due("18: what 2", DidITurnItOff.NONE, x.firm(0, 2));
        c.due("18: what -1", DidITurnItOff.NONE, x.firm(0, -1));
        c.due("18: v stays", 9, x.of(0, 1));
    }

    private static void alikes() {
        DidITurnItOff x = new DidITurnItOff();
        x.deed(3, 0);
        c.due("19: nothing seen", 1023, x.alikes(0));
        x.see(0, 1, true);
        // CARE 8 less ALIKE by 10 is below 5 from 40 on.
        c.due("19: left", 1023 - 15, x.alikes(0));
        x.see(-1, 0, true);
        x.see(0, 11, true);
        c.due("19: left behind eleven", 1023 - 7, x.alikes(0));
        x.see(0, 1, false);
        c.due("19: left later alone", 8, x.alikes(0));
        x.see(-1, 0, true);
        x.see(0, 8, true);
        c.due("19: left behind eight", 1023 - 15, x.alikes(0));
        x.see(0, 8, false);
        x.see(0, 0, true);
        c.due("19: none", 0, x.alikes(0));
        c.due("19: deed 1", DidITurnItOff.NONE, x.alikes(1));
        c.due("19: deed -1", DidITurnItOff.NONE, x.alikes(-1));
        c.due("19: ALIKE stays", 0, x.of(0, 4));
    }

    private static void odds() {
        DidITurnItOff x = new DidITurnItOff();
        x.deed(0, 0);
        x.deed(1, 6);
        c.due("20: above", 4, x.odds(0, 1, 0));
        c.due("20: below", 7, x.odds(0, 1, 1));
        c.due("20: above, 6 of 21", 2, x.odds(1, 60, 0));
        c.due("20: below, 6 of 21", 7, x.odds(1, 60, 1));
        c.due("20: now, above", 0, x.odds(0, 0, 0));
        c.due("20: now, below", 1, x.odds(0, 0, 1));
        x.hurry(20);
        x.pass(1);
        c.due("20: left now, above", 1, x.odds(0, 0, 0));
        c.due("20: left now, below", 1, x.odds(0, 0, 1));
        DidITurnItOff oven = new DidITurnItOff();
        oven.deed(4, 9);
        c.due("20: an OVEN, above", 1, oven.odds(0, 6, 0));
        c.due("20: an OVEN, below", 7, oven.odds(0, 6, 1));
        c.due("20: an OVEN on the seventh, above", 20, oven.odds(0, 7, 0));
        c.due("20: an OVEN on the seventh, below", 21, oven.odds(0, 7, 1));
        c.due("20: deed 2", DidITurnItOff.NO, x.odds(2, 0, 0));
        c.due("20: deed -1", DidITurnItOff.NO, x.odds(-1, 0, 0));
        c.due("20: n 61", DidITurnItOff.NO, x.odds(0, 61, 0));
        c.due("20: n -1", DidITurnItOff.NO, x.odds(0, -1, 0));
        c.due("20: part 2", DidITurnItOff.NO, x.odds(0, 0, 2));
        c.due("20: part -1", DidITurnItOff.NO, x.odds(0, 0, -1));
    }

    private static void mean() {
        DidITurnItOff x = new DidITurnItOff();
        c.due("21: there are none", Long.MIN_VALUE, x.mean(0));
        c.due("21: there are none, below", Long.MIN_VALUE, x.mean(1));
        x.deed(0, 0);
        c.due("21: one", 50, x.mean(0));
        c.due("21: one, below", 1, x.mean(1));
        x.deed(0, 0);
        x.set(1, 0, 51);
        c.due("21: two", 101, x.mean(0));
        c.due("21: two, below", 2, x.mean(1));
        x.deed(0, 0);
        x.deed(0, 0);
        x.set(2, 0, 1);
        x.set(3, 0, 0);
        c.due("21: four", 51, x.mean(0));
        c.due("21: four, below", 2, x.mean(1));
        for (int p = 0; p < 4; p++) x.set(p, 0, 0);
        c.due("21: no TRACE", 0, x.mean(0));
        c.due("21: no TRACE, below", 1, x.mean(1));
        c.due("21: part 2", DidITurnItOff.NO, x.mean(2));
        c.due("21: part -1", DidITurnItOff.NO, x.mean(-1));
    }
}
