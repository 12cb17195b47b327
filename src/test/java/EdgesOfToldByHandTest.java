/** The edges of what is told by hand and asked of it: SEEN, odds, means, plans, books (promises 16 to 25). */
public final class EdgesOfToldByHandTest {
    private static final Check c = new Check();

    public static void main(String[] args) {
        seenAreFive();
        seenNoneThen();
        seenOfMornings();
        hurriesOfNothing();
        hurriesOfAll();
        firmOfNumbers();
        firmOfKinds();
        alikesByTens();
        alikesGrow();
        oddsOfNow();
        oddsInLowestTerms();
        oddsByHurryAlone();
        meanInLowestTerms();
        planIsEight();
        planNoneThen();
        doneOfNothing();
        doneRowByRow();
        bookIsEight();
        struckIsTheFirst();
        c.end("EdgesOfToldByHandTest");
    }

    private static DidITurnItOff deeds(int... kindsAndNumbers) {
        return EdgesOfAskedTest.deeds(kindsAndNumbers);
    }

    // ---- seen

    private static void seenAreFive() {
        DidITurnItOff x = deeds(0, 0, 0, 0, 0, 0, 0, 0, 0, 0, 0, 0);
        for (int i = 1; i <= 5; i++) {
            c.due("16: SEEN ahead of row " + i, i - 1, x.count(2));
            c.due("16: row " + i, i, x.see(i, i == 5 ? 0 : 20, false));
        }
        c.due("16: a sixth", -4, x.see(0, 0, true));
        c.due("16: five at most", 5, x.count(2));
        c.due("16: the first five are so", 9, x.hurries(0));
        x.see(-1, 0, false);
        for (int i = 1; i <= 5; i++) x.see(5, 20, i == 5);
        c.due("16: the fifth row says something", 0, x.hurries(0));
    }

    private static void seenNoneThen() {
        DidITurnItOff x = deeds(0, 0);
        for (int n : new int[] {0, -1, 21, Integer.MIN_VALUE, Integer.MAX_VALUE}) {
            c.due("16: none of none, n " + n, 0, x.see(-1, n, true));
            for (int i = 1; i <= 5; i++) c.due("16: row " + i, i, x.see(0, 0, true));
            c.due("17: it is not so", 0, x.hurries(0));
            c.due("16: none then, n " + n, 0, x.see(-1, n, n == 0));
            c.due("16: none", 0, x.count(2));
            c.due("17: by any", 21, x.hurries(0));
        }
        c.due("16: the first again", 1, x.see(0, 20, false));
        c.due("16: none, without deeds", 0, new DidITurnItOff().see(-1, 99, false));
    }

    private static void seenOfMornings() {
        DidITurnItOff x = deeds(4, 0);
        // Left on MORNING 6 alone, by each HURRY of 1 .. 8.
        for (int n = 0; n <= 20; n++) {
            boolean isSeventh = n == 7 || n == 14;
            x.see(-1, 0, true);
            c.due("16: n " + n, 1, x.see(0, n, true));
            c.due("17: LEFT behind " + n, n == 0 ? 0 : isSeventh ? 20 : 12, x.hurries(0));
            x.see(-1, 0, true);
            c.due("16: n " + n, 1, x.see(0, n, false));
            c.due("17: not LEFT behind " + n, n == 0 ? 21 : isSeventh ? 1 : 9, x.hurries(0));
        }
        for (int n : Check.beyond(0, 20)) c.due("16: n " + n, -2, x.see(0, n, true));
    }

    private static void hurriesOfNothing() {
        DidITurnItOff x = new DidITurnItOff();
        c.due("17: without deeds", 21, x.hurries(0));
        c.due("17: without deeds, the least", 0, x.hurries(1));
        x.deed(0, 0);
        x.hurry(20);
        x.pass(1);
        x.see(0, 0, true);
        c.due("17: as it is now, by any", 21, x.hurries(0));
        c.due("17: as it is now, the least", 0, x.hurries(1));
        x.see(0, 0, false);
        c.due("17: otherwise now, by none", 0, x.hurries(0));
        c.due("17: otherwise now, the least", -5, x.hurries(1));
    }

    /** A CARE that stays: LEFT by each HURRY above it, of 0 .. 20. */
    private static void hurriesOfAll() {
        for (int care : new int[] {-1, 0, 1, 19, 20, 21}) {
            DidITurnItOff x = deeds(0, 0);
            Check.house(x, (care < 8 ? "haste " : "heed ") + Math.abs(care - 8) + " p=0");
            x.see(0, 1, true);
            int left = care < 0 ? 21 : care > 20 ? 0 : 20 - care;
            c.due("17: LEFT by CARE " + care, left, x.hurries(0));
            c.due("17: LEFT by CARE " + care + ", the least", left == 0 ? -5 : care + 1, x.hurries(1));
            x.see(-1, 0, true);
            x.see(0, 20, false);
            c.due("17: done by CARE " + care, 21 - left, x.hurries(0));
            c.due("17: done by CARE " + care + ", the least", left == 21 ? -5 : 0, x.hurries(1));
            c.due("8: HURRY stays", 5, x.told(2));
        }
    }

    private static void firmOfNumbers() {
        DidITurnItOff x = deeds(1, 4, 1, 4);
        int[] done = {10, 10, 9, 5, 1, 0};
        int[] hurries = {0, 8, 9, 13, 17, 18};
        for (int i = 0; i < hurries.length; i++) {
            x.hurry(hurries[i]);
            x.see(-1, 0, true);
            x.see(0, 1, false);
            c.due("18: done, HURRY " + hurries[i], done[i], x.firm(0, 0));
            c.due("18: done, the least", done[i] == 0 ? -5 : 10 - done[i], x.firm(0, 1));
            c.due("18: by the other's v", hurries[i] <= 12 ? 10 : 0, x.firm(1, 0));
            x.see(-1, 0, true);
            x.see(0, 20, true);
            c.due("18: LEFT, HURRY " + hurries[i], 10 - done[i], x.firm(0, 0));
            c.due("18: LEFT, the least", done[i] == 10 ? -5 : 0, x.firm(0, 1));
        }
        c.due("18: v stays", 4, x.of(0, 1));
        x.see(-1, 0, true);
        c.due("18: nothing is SEEN", 10, x.firm(1, 0));
        c.due("18: nothing is SEEN, the least", 0, x.firm(1, 1));
        x.see(0, 0, true);
        c.due("18: as it is now, by none", 0, x.firm(0, 0));
        c.due("18: as it is now, the least", -5, x.firm(0, 1));
    }

    /** v says nothing of a DEED's CARE but by its KIND, or by a TEST of it. */
    private static void firmOfKinds() {
        for (int kind = 0; kind <= 6; kind++) {
            DidITurnItOff x = deeds(kind, 0);
            x.hurry(kind == 2 || kind == 5 ? 5 : 9);
            x.see(0, 1, true);
            boolean isByV = kind == 1 || kind == 4;
            c.due("18: kind " + kind, isByV ? 1 : 10, x.firm(0, 0));
            c.due("18: kind " + kind + ", the least", 0, x.firm(0, 1));
            Check.house(x, "heed 50 v=0|v>7");
            c.due("18: by a TEST, kind " + kind, isByV ? 0 : 7, x.firm(0, 0));
            c.due("18: by a TEST, kind " + kind + ", the least", isByV ? -5 : 1, x.firm(0, 1));
        }
    }

    private static void alikesByTens() {
        DidITurnItOff x = deeds(3, 0, 3, 0);
        c.due("19: nothing is SEEN", 1023, x.alikes(0));
        for (int hurry = 0; hurry <= 9; hurry++) {
            x.hurry(hurry);
            x.see(-1, 0, true);
            x.see(0, 1, false);
            // CARE is 8 less the ten: done till 8 less HURRY; below 0 at 90.
            int done = (1 << 9 - hurry) - 1;
            c.due("19: done, HURRY " + hurry, done, x.alikes(0));
            x.see(-1, 0, true);
            x.see(0, 1, true);
            c.due("19: LEFT, HURRY " + hurry, 1023 - done, x.alikes(0));
            c.due("19: of the other", hurry == 9 ? 1023 : 0, x.alikes(1));
        }
        x.see(0, 0, true);
        c.due("19: otherwise now", 0, x.alikes(0));
        c.due("19: ALIKE stays", 0, x.of(0, 4));
    }

    /** ALIKE grows from each ten, and is 99 at most. */
    private static void alikesGrow() {
        DidITurnItOff x = deeds(3, 0);
        x.set(0, 1, 55);
        x.hurry(7);
        int[] ns = {1, 10, 11, 20};
        int[] done = {3, 3, 1, 1};
        for (int i = 0; i < ns.length; i++) {
            x.see(-1, 0, true);
            x.see(0, ns[i], false);
            c.due("19: done behind " + ns[i], done[i], x.alikes(0));
        }
        DidITurnItOff most = deeds(0, 0);
        Check.house(most, "haste 99 a>9");
        most.see(0, 20, false);
        c.due("19: no a is above 9", 1023, most.alikes(0));
        DidITurnItOff nine = deeds(0, 0);
        Check.house(nine, "haste 99 a=9");
        nine.see(0, 11, true);
        c.due("19: 99 at most", 768, nine.alikes(0));
    }

    // ---- odds, means

    private static void oddsAre(DidITurnItOff x, int deed, int n, long above, long below) {
        c.due("20: odds(" + deed + ", " + n + ", 0)", above, x.odds(deed, n, 0));
        c.due("20: odds(" + deed + ", " + n + ", 1)", below, x.odds(deed, n, 1));
    }

    private static void oddsOfNow() {
        DidITurnItOff x = deeds(0, 0, 2, 0);
        oddsAre(x, 0, 0, 0, 1);
        x.pass(1);
        oddsAre(x, 0, 0, 0, 1);
        oddsAre(x, 1, 0, 1, 1);
        x.look(1);
        oddsAre(x, 1, 0, 0, 1);
        oddsAre(x, 1, 1, 16, 21);
        oddsAre(x, 1, 60, 16, 21);
        c.due("20: n 61", Long.MIN_VALUE, x.odds(1, 61, 0));
        c.due("20: n -1", Long.MIN_VALUE, x.odds(1, -1, 0));
    }

    /** Of a CARE that stays, 20 less CARE of 21. */
    private static void oddsInLowestTerms() {
        int[] cares = {-1, 0, 5, 6, 8, 11, 13, 14, 17, 18, 19, 20, 21};
        int[] above = {1, 20, 5, 2, 4, 3, 1, 2, 1, 2, 1, 0, 0};
        int[] below = {1, 21, 7, 3, 7, 7, 3, 7, 7, 21, 21, 1, 1};
        for (int i = 0; i < cares.length; i++) {
            DidITurnItOff x = deeds(0, 0);
            Check.house(x, (cares[i] < 8 ? "haste " : "heed ") + Math.abs(cares[i] - 8) + " p=0");
            oddsAre(x, 0, 1, above[i], below[i]);
            oddsAre(x, 0, 60, above[i], below[i]);
        }
    }

    /** Whatever HURRY is, and whatever it was. */
    private static void oddsByHurryAlone() {
        for (int hurry : new int[] {0, 5, 20}) {
            DidITurnItOff x = deeds(5, 0, 0, 0);
            x.set(0, 2, 9);
            x.hurry(hurry);
            // A GATE's MARK wears by each morning on which it is done: 13, 12, 11 ..
            oddsAre(x, 0, 1, 1, 3);
            oddsAre(x, 0, 2, 8, 21);
            oddsAre(x, 0, 60, 16, 21);
            c.due("8: HURRY stays", hurry, x.told(2));
            c.due("5: MARK stays", 9, x.of(0, 5));
        }
    }

    private static void meanIs(DidITurnItOff x, long above, long below) {
        c.due("21: above", above, x.mean(0));
        c.due("21: below", below, x.mean(1));
    }

    private static void meanInLowestTerms() {
        DidITurnItOff x = new DidITurnItOff();
        meanIs(x, Long.MIN_VALUE, Long.MIN_VALUE);
        long[][] due = {{0, 1}, {1, 2}, {1, 1}, {3, 2}, {2, 1}, {5, 2}};
        for (int deed = 0; deed < 6; deed++) {
            x.deed(0, 0);
            x.set(deed, 0, deed);
            meanIs(x, due[deed][0], due[deed][1]);
        }
        x.set(0, 0, 1);
        meanIs(x, 8, 3);
        x.set(0, 0, 4);
        meanIs(x, 19, 6);
        for (int deed = 0; deed < 6; deed++) x.set(deed, 0, 99);
        meanIs(x, 99, 1);
        x.set(5, 0, 98);
        meanIs(x, 593, 6);
        for (int deed = 0; deed < 6; deed++) x.set(deed, 0, 0);
        meanIs(x, 0, 1);
        for (int part : Check.beyond(0, 1)) c.due("21: part " + part, Long.MIN_VALUE, x.mean(part));
    }

    // ---- plans

    private static void planIsEight() {
        DidITurnItOff x = deeds(0, 0);
        for (int i = 1; i <= 8; i++) {
            c.due("22: PLAN ahead of row " + i, i - 1, x.count(3));
            c.due("22: row " + i, i, i < 8 ? x.plan(3, i == 7 ? 20 : 0) : x.plan(0, 0));
        }
        c.due("22: a ninth", -4, x.plan(3, 0));
        c.due("22: eight at most", 8, x.count(3));
        c.due("23: the eighth is gone by the seventh", 1, x.done(1));
    }

    private static void planNoneThen() {
        DidITurnItOff x = deeds(0, 0);
        for (int n : new int[] {0, -1, 21, Integer.MIN_VALUE, Integer.MAX_VALUE}) {
            c.due("22: none of none, " + n, 0, x.plan(-1, n));
            for (int i = 1; i <= 7; i++) c.due("22: row " + i, i, x.plan(0, n));
            c.due("22: the eighth", 8, x.plan(3, 20));
            c.due("22: none then, " + n, 0, x.plan(-1, n));
            c.due("22: none", 0, x.count(3));
            c.due("22: a HURRY, the least", 1, x.plan(3, 0));
            c.due("22: a HURRY, the most", 2, x.plan(3, 20));
            c.due("23: no morning went", 0, x.done(1));
        }
        DidITurnItOff none = new DidITurnItOff();
        c.due("22: a morning of none", 1, none.plan(0, Integer.MIN_VALUE));
        c.due("23: HARM of none", 0, none.done(0));
        c.due("23: LEFT of none", 0, none.done(1));
    }

    private static void doneOfNothing() {
        DidITurnItOff x = new DidITurnItOff();
        c.due("23: without deeds and rows, HARM", 0, x.done(0));
        c.due("23: without deeds and rows, LEFT", 0, x.done(1));
        x.deed(0, 9);
        x.hurry(20);
        x.pass(3);
        c.due("23: without rows, HARM", 30, x.done(0));
        c.due("23: without rows, LEFT", 1, x.done(1));
    }

    /** A MARK ahead of a morning says something of it, one behind it does not; HURRY holds from its row on. */
    private static void doneRowByRow() {
        DidITurnItOff x = deeds(5, 0, 5, 0);
        x.hurry(13);
        x.plan(2, 0);
        x.plan(0, 0);
        c.due("23: marked ahead", 2, x.done(1));
        x.plan(0, 0);
        c.due("23: it is worn", 3, x.done(1));
        x.plan(1, 1);
        c.due("23: one is looked after", 1, x.done(1));
        c.due("23: HARM is by mornings", 3, x.done(0));
        x.plan(2, 1);
        c.due("23: a MARK alone says nothing", 1, x.done(1));
        x.plan(3, 14);
        c.due("23: nor does HURRY", 1, x.done(1));
        x.plan(0, 0);
        c.due("23: all by HURRY", 3, x.done(1));
        c.due("23: HARM of all", 5, x.done(0));
        x.plan(-1, 0);
        x.plan(0, 0);
        x.plan(2, 0);
        c.due("23: marked behind", 3, x.done(1));
        c.due("23: nothing changes", 13, x.told(2) + x.told(0) + x.told(3) + x.told(4) + x.of(0, 5) + x.of(1, 6));
    }

    // ---- books

    private static void bookIsEight() {
        DidITurnItOff x = deeds(0, 0);
        for (int n : new int[] {0, -1, 100, Integer.MIN_VALUE, Integer.MAX_VALUE}) {
            c.due("24: none of none", 0, x.book(-1, n));
            for (int i = 1; i <= 8; i++) {
                c.due("24: BOOK ahead of row " + i, i - 1, x.count(4));
                c.due("24: row " + i, i, x.book(0, i < 8 ? 50 : n == 0 ? 99 : 0));
            }
            c.due("24: a ninth", -4, x.book(0, 50));
            c.due("24: eight at most", 8, x.count(4));
            c.due("25: the eighth", 7, x.struck());
            c.due("24: none then, " + n, 0, x.book(-1, n));
            c.due("24: none", 0, x.count(4));
            c.due("25: of none", -5, x.struck());
        }
        c.due("24: none, without deeds", 0, new DidITurnItOff().book(-1, 100));
    }

    private static void struckIsTheFirst() {
        DidITurnItOff x = deeds(0, 0, 0, 0);
        c.due("25: without rows", -5, x.struck());
        x.set(0, 0, 0);
        x.set(1, 0, 99);
        for (int row = 0; row < 8; row++) x.book(row % 2, row % 2 == 0 ? 0 : 99);
        c.due("25: all so", -5, x.struck());
        x.set(1, 0, 98);
        c.due("25: one less", 1, x.struck());
        x.set(0, 0, 1);
        c.due("25: one more", 0, x.struck());
        x.set(0, 0, 0);
        x.set(1, 0, 99);
        c.due("25: so again", -5, x.struck());
        x.pass(1);
        c.due("25: a morning went", 0, x.struck());
        DidITurnItOff none = new DidITurnItOff();
        c.due("25: without deeds", -5, none.struck());
    }
}
