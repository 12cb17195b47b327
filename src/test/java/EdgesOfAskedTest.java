/** The edges of what is asked of mornings to come, of SEEN, odds, plans and books (promises 13 to 25). */
public final class EdgesOfAskedTest {
    private static final Check c = new Check();

    public static void main(String[] args) {
        askingChangesNothing();
        onOfNow();
        onOfSixty();
        onOfEachDeed();
        onWithoutDeeds();
        bestOfMinutes();
        bestOfDoubt();
        bestOfAll();
        bestOfSeveral();
        renewOfMornings();
        renewOfQ();
        renewOfSeveral();
        renewOfMarks();
        testsOfOne();
        beyondTheLastMorning();
        c.end("EdgesOfAskedTest");
    }

    static DidITurnItOff deeds(int... kindsAndNumbers) {
        DidITurnItOff x = new DidITurnItOff();
        for (int i = 0; i < kindsAndNumbers.length; i += 2) x.deed(kindsAndNumbers[i], kindsAndNumbers[i + 1]);
        return x;
    }

    static DidITurnItOff at9999(int... kindsAndNumbers) {
        DidITurnItOff x = deeds(kindsAndNumbers);
        for (int i = 0; i < 166; i++) x.pass(60);
        x.pass(39);
        return x;
    }

    private static void askAll(DidITurnItOff x, int deeds) {
        for (int n : new int[] {0, 1, 60}) {
            x.on(n, 0);
            x.on(n, 1);
            if (deeds == 0) continue;
            x.on(n, 10);
            x.on(n, 19 + deeds);
            x.odds(deeds - 1, n, 0);
            x.odds(0, n, 1);
            x.renew(0, 8, n);
            x.renew(deeds - 1, 1, n);
            x.alikes(0);
            x.firm(deeds - 1, 0);
            x.doubt(0, n);
        }
        for (int what = 0; what <= 1; what++) {
            x.best(30, what);
            x.best(0, what);
            x.hurries(what);
            x.mean(what);
            x.done(what);
            x.firm(0, what);
        }
        x.struck();
        for (int what = 0; what <= 8; what++) x.of(0, what);
        for (int k = 0; k <= 6; k++) x.as(0, k);
        for (int i = 0; i < 8; i++) x.trace(i);
    }

    private static void askingChangesNothing() {
        for (Scene scene : new Scene[] {Scene.BARE, Scene.SOME, Scene.LATE}) {
            DidITurnItOff x = scene.make();
            askAll(x, scene.deeds());
            c.same("13 to 25: " + scene, Scene.print(scene.make()), Scene.print(x));
        }
        // THE TAPE of FULL takes so many calls that what is asked of it is asked by halves.
        for (int half = 0; half < 2; half++) {
            DidITurnItOff x = Scene.FULL.make();
            if (half == 0) askAll(x, 6);
            else for (int what = 0; what <= 1; what++) x.done(what);
            c.same("13 to 25: FULL", Scene.print(Scene.FULL.make()), Scene.print(x));
        }
    }

    // ---- on

    private static void onOfNow() {
        DidITurnItOff x = deeds(0, 1, 2, 3);
        x.pass(1);
        x.set(0, 0, 99);
        x.set(1, 1, 99);
        x.look(0);
        c.due("13: LEFT now", 2, x.on(0, 0));
        c.due("13: HARM now", 4, x.on(0, 1));
        c.due("13: TRACE now", 90, x.on(0, 10));
        c.due("13: TRACE now, of the other", 25, x.on(0, 11));
        c.due("13: ALIKE now", 3, x.on(0, 20));
        c.due("13: ALIKE now, of the other", 99, x.on(0, 21));
        c.due("13: ALIKE of one more, at most 99", 99, x.on(1, 21));
        for (int n : Check.beyond(0, 60)) c.due("13: n " + n, -2, x.on(n, 0));
    }

    private static void onOfSixty() {
        DidITurnItOff x = deeds(4, 5, 6, 2, 5, 9);
        x.row(1, 2, 4);
        x.hurry(9);
        x.set(2, 2, 9);
        x.set(1, 1, 50);
        for (int n : new int[] {0, 1, 6, 7, 59, 60}) {
            x.image();
            int[] asked = {x.on(n, 0), x.on(n, 1), x.on(n, 10), x.on(n, 11), x.on(n, 12), x.on(n, 20), x.on(n, 21), x.on(n, 22)};
            x.pass(n);
            int[] gone = {x.told(4), x.told(3), x.of(0, 3), x.of(1, 3), x.of(2, 3), x.of(0, 4), x.of(1, 4), x.of(2, 4)};
            for (int i = 0; i < asked.length; i++) c.due("13: " + i + " behind " + n, gone[i], asked[i]);
            x.undo();
        }
    }

    private static void onOfEachDeed() {
        DidITurnItOff x = new DidITurnItOff();
        for (int deeds = 0; deeds <= 6; deeds++) {
            for (int p = 0; p <= 9; p++) {
                c.due("13: TRACE of " + p + " of " + deeds, p < deeds ? 60 + p : -1, x.on(0, 10 + p));
                c.due("13: ALIKE of " + p + " of " + deeds, p < deeds ? 70 + p : -1, x.on(0, 20 + p));
            }
            if (deeds == 6) return;
            x.deed(0, 0);
            x.set(deeds, 0, 60 + deeds);
            x.set(deeds, 1, 70 + deeds);
        }
    }

    private static void onWithoutDeeds() {
        DidITurnItOff x = new DidITurnItOff();
        for (int n : new int[] {0, 60}) {
            c.due("13: LEFT of none", 0, x.on(n, 0));
            c.due("13: HARM of none", 0, x.on(n, 1));
            c.due("13: TRACE of none", -1, x.on(n, 10));
            c.due("13: ALIKE of none", -1, x.on(n, 20));
        }
    }

    // ---- best

    /** Of each v its minutes: just so many are enough, one less is not. */
    private static void bestOfMinutes() {
        int[] minutes = {1, 2, 3, 4, 1, 2, 3, 4, 1, 2};
        for (int v = 0; v <= 9; v++) {
            DidITurnItOff x = deeds(0, v);
            x.set(0, 0, 39);
            for (int n : new int[] {0, minutes[v] - 1}) {
                c.due("14: too few for v " + v, 0, x.best(n, 0));
                c.due("14: nothing in too few for v " + v, 0, x.best(n, 1));
            }
            for (int n : new int[] {minutes[v], 30}) {
                c.due("14: enough for v " + v, 1, x.best(n, 0));
                c.due("14: v and 1 times, v " + v, v + 1, x.best(n, 1));
            }
            for (int n : Check.beyond(0, 30)) c.due("14: n " + n, -2, x.best(n, 0));
        }
        DidITurnItOff six = deeds(0, 3, 0, 7, 0, 3, 0, 7, 0, 3, 0, 7);
        for (int deed = 0; deed < 6; deed++) six.set(deed, 0, 39);
        c.due("14: 23 for 24", 2 * 4 + 3 * 8, six.best(23, 1));
        c.due("14: which in 23", 2 + 8 + 32 + 1 + 4, six.best(23, 0));
        c.due("14: 24 for 24", 63, six.best(24, 0));
        c.due("14: how much in 24", 36, six.best(24, 1));
        c.due("14: 30 for 24", 63, six.best(30, 0));
    }

    /** DOUBT at YARD 20: 0 and below are 0, and take no place. */
    private static void bestOfDoubt() {
        int[] traces = {39, 40, 41, 99, 0};
        int[] much = {3, 0, 0, 0, 120};
        for (int i = 0; i < traces.length; i++) {
            DidITurnItOff x = deeds(0, 2);
            x.set(0, 0, traces[i]);
            c.due("14: which, TRACE " + traces[i], much[i] > 0 ? 1 : 0, x.best(30, 0));
            c.due("14: how much, TRACE " + traces[i], much[i], x.best(30, 1));
        }
        DidITurnItOff none = deeds(0, 0, 0, 9);
        Check.house(none, "worry 0");
        none.set(0, 0, 0);
        c.due("14: no DOUBT is above 0", 0, none.best(30, 0));
        c.due("14: no DOUBT, how much", 0, none.best(30, 1));
    }

    private static void bestOfAll() {
        DidITurnItOff x = new DidITurnItOff();
        for (int n : new int[] {0, 30}) {
            c.due("14: of none", 0, x.best(n, 0));
            c.due("14: of none, how much", 0, x.best(n, 1));
        }
        for (int deed = 0; deed < 6; deed++) x.deed(0, 9);
        Check.house(x, "worry 99");
        for (int deed = 0; deed < 6; deed++) x.set(deed, 0, 0);
        c.due("14: the most", 6 * 1980 * 10, x.best(30, 1));
        c.due("14: the most in 12", 6 * 1980 * 10, x.best(12, 1));
        c.due("14: the most in 11", 5 * 1980 * 10, x.best(11, 1));
        c.due("14: five of six, the least as bits", 31, x.best(11, 0));
        c.due("14: one of six, the least as bits", 1, x.best(3, 0));
    }

    private static void bestOfSeveral() {
        DidITurnItOff x = deeds(0, 0, 0, 0, 0, 1);
        x.set(0, 0, 38);
        x.set(1, 0, 38);
        x.set(2, 0, 38);
        // In 2 minutes 0 and 1 are worth 4 together, as 2 is alone: 3 is less than 4.
        c.due("14: of two alike", 3, x.best(2, 0));
        c.due("14: of two alike, how much", 4, x.best(2, 1));
        x.set(2, 0, 37);
        c.due("14: one more is more", 4, x.best(2, 0));
        x.set(2, 0, 38);
        x.set(0, 0, 40);
        c.due("14: none that is worth nothing is in it", 6, x.best(4, 0));
    }

    // ---- renew

    private static void renewOfMornings() {
        DidITurnItOff x = deeds(0, 0);
        int[] most = {1, 3, 7, 13, 27, 53, 105, 211};
        // Behind morning k without a MARK: 50 less 2k.
        for (int n = 1; n <= 8; n++) {
            int last = 50 - 2 * (n - 1);
            c.due("15: none is needed of " + n, 0, x.renew(0, n, last));
            c.due("15: one is needed of " + n, 1, x.renew(0, n, last + 1));
            // Renewed ahead of morning j, behind j and i more: 86 less 2j less 6i.
            c.due("15: all that are needed of " + n, most[n - 1], x.renew(0, n, 86 - 2 * (n - 1)));
            c.due("15: not by any of " + n, -5, x.renew(0, n, 87 - 2 * (n - 1)));
        }
        for (int n : Check.beyond(1, 8)) c.due("15: n " + n, -2, x.renew(0, n, 0));
        DidITurnItOff late = deeds(0, 0);
        late.set(0, 1, 99);
        c.due("15: ALIKE 99 at most, none is needed", 0, late.renew(0, 8, 0));
        c.due("15: ALIKE 99 at most, none helps", -5, late.renew(0, 8, 1));
        late.set(0, 1, 42);
        c.due("15: TRACE 2 behind one", 1, late.renew(0, 1, 2));
        c.due("15: TRACE 2 and 0", -5, late.renew(0, 2, 1));
    }

    private static void renewOfQ() {
        DidITurnItOff x = deeds(0, 0);
        x.hurry(20);
        x.set(0, 1, 99);
        c.due("15: q 0, though it is left", 0, x.renew(0, 8, 0));
        c.due("15: q 1", -5, x.renew(0, 1, 1));
        c.due("15: q 99", -5, x.renew(0, 8, 99));
        for (int q : Check.beyond(0, 99)) c.due("15: q " + q, -2, x.renew(0, 8, q));
        x.set(0, 1, 0);
        c.due("15: just q of one left", 0, x.renew(0, 1, 25));
        c.due("15: one more", -5, x.renew(0, 1, 26));
        c.due("15: just q of two left", 0, x.renew(0, 2, 24));
        c.due("15: one more of two left", -5, x.renew(0, 2, 25));
    }

    /** The fewest first, and of those the least as bits. */
    private static void renewOfSeveral() {
        DidITurnItOff x = deeds(0, 0);
        x.set(0, 2, 9);
        // As it is: 86, 80, 74, 68; a MARK of 9 again ahead of morning k makes it 86 less 2k there.
        c.due("15: none of three", 0, x.renew(0, 3, 74));
        c.due("15: the second or third: the least as bits", 2, x.renew(0, 3, 75));
        c.due("15: of four, the second, third or fourth", 2, x.renew(0, 4, 69));
        c.due("15: of four, the third alone", 4, x.renew(0, 4, 74));
        c.due("15: of four, the third alone, just so", 4, x.renew(0, 4, 76));
        c.due("15: of four, two", 10, x.renew(0, 4, 77));
        x.set(0, 2, 0);
        c.due("15: of four, the first", 1, x.renew(0, 4, 60));
        DidITurnItOff oven = deeds(4, 0);
        oven.pass(6);
        oven.set(0, 1, 24);
        // It is left on the first morning: its MARK stays, a renewal there is as good as one on the second.
        c.due("15: of two alike, the least as bits", 1, oven.renew(0, 2, 1));
        c.due("15: none is needed where it is left", 0, oven.renew(0, 1, 1));
    }

    private static void renewOfMarks() {
        DidITurnItOff gate = deeds(5, 0);
        gate.hurry(13);
        c.due("15: a GATE by MARK 9 each morning", 255, gate.renew(0, 8, 26));
        c.due("15: a GATE that need not be done", 0, gate.renew(0, 1, 25));
        gate.hurry(14);
        c.due("15: a GATE that is left by MARK 9", -5, gate.renew(0, 1, 26));
        gate.hurry(5);
        c.due("15: a GATE by MARK 1 and more", 1, gate.renew(0, 8, 26));
        gate.set(0, 2, 9);
        c.due("15: a GATE that has its MARK", 0, gate.renew(0, 8, 26));
        DidITurnItOff heeding = deeds(0, 0);
        Check.house(heeding, "haste 9 u>7");
        c.due("15: MARKS that one does not heed", 0, heeding.renew(0, 1, 50));
        c.due("15: a MARK by which it is left", -5, heeding.renew(0, 1, 51));
    }

    // ---- what a house says of one of several

    /** What is asked of the last of six is by its own p, k, v, a, u and by MORNING. */
    private static void testsOfOne() {
        String[] so = {"p=5", "k=5", "v=9", "a=3", "u=2", "d=2"};
        String[] not = {"p<5", "k<5", "v<9", "a<3", "u>2", "d<2"};
        for (int i = 0; i < so.length; i++) {
            DidITurnItOff x = deeds(0, 0, 1, 0, 2, 0, 3, 0, 4, 0, 5, 9);
            x.pass(2);
            x.set(5, 1, 30);
            x.set(5, 2, 2);
            c.due("3: house", 0, Check.house(x, "haste 40 " + so[i] + ";heed 40 " + not[i]));
            c.due("13: LEFT by " + so[i], 32, x.on(1, 0) & 32);
            c.due("15: LEFT, so TRACE is 0, by " + so[i], so[i].charAt(0) == 'u' ? 1 : -5, x.renew(5, 1, 1));
            c.due("20: by any HURRY, by " + so[i], 1, x.odds(5, 1, 0));
            c.due("20: of the one line, by " + so[i], 1, x.odds(5, 1, 1));
            x.see(5, 1, true);
            c.due("17: by any HURRY, by " + so[i], 21, x.hurries(0));
            c.due("18: v, by " + so[i], so[i].charAt(0) == 'v' ? 1 : 10, x.firm(5, 0));
            c.due("19: ALIKE, by " + so[i], so[i].charAt(0) == 'a' ? 8 : 1023, x.alikes(5));
        }
    }

    // ---- beyond 9999

    /** MORNING goes beyond 9999 in all that is asked: 9999 is 3 modulo 7 and modulo 4. */
    private static void beyondTheLastMorning() {
        DidITurnItOff x = at9999(6, 0, 4, 9);
        x.set(0, 1, 0);
        x.set(1, 1, 0);
        for (int k = 0; k < 4; k++) x.row(0, k, 2 * k);
        x.hurry(9);
        int[] tolds = {0, 1, 0, 0, 0, 1, 0, 0};
        for (int n = 1; n <= 8; n++) {
            c.due("13: TOLD behind " + n, tolds[n - 1], x.on(n, 0) & 1);
            c.due("13: OVEN behind " + n, n == 4 ? 2 : 0, x.on(n, 0) & 2);
            c.due("20: OVEN behind " + n, n == 4 ? 20 : 1, x.odds(1, n, 0));
        }
        c.due("15: OVEN is left on the fourth", 22, x.on(4, 11));
        c.due("15: just that", 0, x.renew(1, 8, 22));
        c.due("15: one more", -5, x.renew(1, 8, 23));
        x.see(0, 2, true);
        x.see(1, 4, true);
        c.due("17: HURRY above 8, till 20", 12, x.hurries(0));
        c.due("17: the least", 9, x.hurries(1));
        c.due("18: v of an OVEN that is left is all one", 10, x.firm(1, 0));
        c.due("19: ALIKE of it, too", 1023, x.alikes(1));
        c.due("19: ALIKE of the other", 1023, x.alikes(0));
        for (int i = 0; i < 4; i++) x.plan(0, 0);
        c.due("23: behind four", 2, x.done(1));
        c.due("11: MORNING stays", 9999, x.told(0));
    }
}
