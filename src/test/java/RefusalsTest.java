import java.util.function.ToLongFunction;

/** Each refusal alone, each pair (and more) that one call can meet, and that a refused call changes nothing. */
public final class RefusalsTest {
    private static final Check c = new Check();
    private static final int NONE = -1, BAD = -2, STATE = -3, FULL = -4, NO_ANSWER = -999999;
    private static final int[] BITS = Check.beyond(0, 1), TENS = Check.beyond(0, 9), PERCENTS = Check.beyond(0, 99);
    private static final int[] AHEAD = Check.beyond(0, 60);

    public static void main(String[] args) {
        scenesAreFit();
        feed();
        house();
        deed();
        deedsThatAreNot();
        of();
        row();
        set();
        hurry();
        doubt();
        told();
        pass();
        passLate();
        on();
        best();
        renew();
        see();
        asksOfSeen();
        odds();
        mean();
        plan();
        planFull();
        done();
        book();
        act();
        trace();
        as();
        undo();
        count();
        c.end("RefusalsTest");
    }

    private static void refused(String told, long want, Scene scene, ToLongFunction<DidITurnItOff> call) {
        DidITurnItOff x = scene.make();
        c.due(scene + " " + told, want, call.applyAsLong(x));
        c.same(scene + " behind " + told, Scene.print(scene.make()), Scene.print(x));
    }

    /** Numbers that are no DEED's, where one below 0 says no more than another. */
    private static int[] noDeeds(Scene scene) {
        return Check.beyond(0, scene.deeds() - 1);
    }

    /** As noDeeds(), where -1 says: none then. */
    private static int[] noDeedsBelow(Scene scene) {
        return new int[] {-2, scene.deeds(), Integer.MIN_VALUE, Integer.MAX_VALUE};
    }

    /** A scene must show what a wrong call would change: what is SEEN and in BOOK is so, and an image is otherwise. */
    private static void scenesAreFit() {
        int[] deeds = {0, 3, 6, 6, 3};
        int[] houses = {0, 1, 4, 5, 1};
        int[] rows = {0, 2, 8, 8, 2};
        int[] signs = {0, 18, 100, 100, 18};
        for (Scene scene : Scene.values()) {
            DidITurnItOff x = scene.make();
            int i = scene.ordinal();
            c.due(scene + " deeds", deeds[i], x.count(0));
            c.due(scene + " houses", houses[i], x.count(1));
            c.due(scene + " plan", rows[i], x.count(3));
            c.due(scene + " book", rows[i], x.count(4));
            c.due(scene + " tape", signs[i], x.count(5));
            c.due(scene + " BOOK is so", -5, x.struck());
            c.holds(scene + " SEEN is so by some", x.hurries(0) > (scene == Scene.BARE ? 20 : 0));
            c.due(scene + " all of SEEN", scene.deeds() == 6 ? 5 : scene.deeds() == 3 ? 2 : 0, x.count(2));
        }
        c.due("LATE morning", 9999, Scene.LATE.make().told(0));
    }

    private static void feed() {
        for (Scene scene : Scene.values()) {
            for (int sign : Check.beyond(0, 127)) refused("2: feed(" + sign + ")", BAD, scene, x -> x.feed(sign));
        }
        refused("2: feed(0)", FULL, Scene.FULL, x -> x.feed(0));
        refused("2: feed(127)", FULL, Scene.FULL, x -> x.feed(127));
        refused("2: feed(59)", FULL, Scene.HOUSED, x -> x.feed(59));
    }

    private static void house() {
        refused("3: house, of a good tape", FULL, Scene.HOUSED, x -> x.house());
        for (String text : new String[] {"", "worry", "worry 7", "?"}) {
            DidITurnItOff x = Scene.SOME.make();
            c.due("3: house, of the tape", 1, x.house());
            for (int house = 2; house < 5; house++) c.due("3: house", house, Check.house(x, "worry " + house));
            Check.feed(x, text);
            c.due("3: a sixth, of " + text, FULL, x.house());
            c.due("3: signs that stay, of " + text, text.length(), x.count(5));
            c.due("3: a sixth again, of " + text, FULL, x.house());
            c.due("3: WORRY stays, by " + text, 4, x.told(1));
            c.due("3: HOUSES stay, by " + text, 5, x.count(1));
            c.due("3: the next sign, of " + text, text.length() + 1, x.feed(';'));
        }
    }

    private static void deed() {
        for (int kind : Check.beyond(0, 6)) {
            refused("4: NONE", NONE, Scene.SOME, x -> x.deed(kind, 0));
            refused("4: NONE, FULL", NONE, Scene.FULL, x -> x.deed(kind, 9));
            for (int v : TENS) {
                refused("4: NONE, BAD", NONE, Scene.SOME, x -> x.deed(kind, v));
                refused("4: NONE, BAD, FULL", NONE, Scene.FULL, x -> x.deed(kind, v));
            }
        }
        for (int kind = 0; kind <= 6; kind++) {
            int is = kind;
            for (int v : TENS) {
                refused("4: BAD", BAD, Scene.SOME, x -> x.deed(is, v));
                refused("4: BAD, FULL", BAD, Scene.FULL, x -> x.deed(is, v));
            }
            refused("4: FULL", FULL, Scene.FULL, x -> x.deed(is, 0));
            refused("4: FULL", FULL, Scene.FULL, x -> x.deed(is, 9));
        }
    }

    /** Calls whose DEED alone can be refused, and those of which the other numbers are good. */
    private static void deedsThatAreNot() {
        for (Scene scene : Scene.values()) {
            for (int d : noDeeds(scene)) {
                refused("5: of", NO_ANSWER, scene, x -> x.of(d, 0));
                refused("6: row", NONE, scene, x -> x.row(d, 0, 0));
                refused("7: set", NONE, scene, x -> x.set(d, 0, 0));
                refused("9: look", NONE, scene, x -> x.look(d));
                refused("10: doubt", NO_ANSWER, scene, x -> x.doubt(d, 0));
                refused("15: renew", NONE, scene, x -> x.renew(d, 1, 0));
                refused("18: firm", NONE, scene, x -> x.firm(d, 0));
                refused("19: alikes", NONE, scene, x -> x.alikes(d));
                refused("20: odds", Long.MIN_VALUE, scene, x -> x.odds(d, 0, 0));
                refused("28: as", NONE, scene, x -> x.as(d, 0));
            }
        }
    }

    private static void of() {
        for (int what : Check.beyond(0, 8)) {
            refused("5: what", NO_ANSWER, Scene.SOME, x -> x.of(0, what));
            for (int d : noDeeds(Scene.SOME)) refused("5: deed, what", NO_ANSWER, Scene.SOME, x -> x.of(d, what));
        }
    }

    private static void row() {
        int[] noKs = Check.beyond(0, 3);
        for (int k : noKs) {
            refused("6: NONE k", NONE, Scene.SOME, x -> x.row(1, k, 0));
            refused("6: NONE k, STATE", NONE, Scene.SOME, x -> x.row(0, k, 0));
        }
        for (int n : TENS) {
            for (int d : noDeeds(Scene.SOME)) refused("6: NONE deed, BAD", NONE, Scene.SOME, x -> x.row(d, 3, n));
            for (int k : noKs) {
                refused("6: NONE k, BAD", NONE, Scene.SOME, x -> x.row(1, k, n));
                refused("6: NONE k, BAD, STATE", NONE, Scene.SOME, x -> x.row(2, k, n));
                refused("6: NONE both, BAD", NONE, Scene.SOME, x -> x.row(3, k, n));
            }
            refused("6: BAD", BAD, Scene.SOME, x -> x.row(1, 0, n));
            refused("6: BAD, STATE", BAD, Scene.SOME, x -> x.row(0, 3, n));
        }
        for (int d = 0; d < 6; d++) {
            int another = d;
            if (d != 1) refused("6: STATE, deed " + d, STATE, Scene.FULL, x -> x.row(another, 3, 9));
        }
    }

    private static void set() {
        int[] noWhats = Check.beyond(0, 2);
        for (int what : noWhats) refused("7: NONE what", NONE, Scene.SOME, x -> x.set(0, what, 0));
        for (int n : PERCENTS) {
            for (int what : noWhats) refused("7: NONE what, BAD", NONE, Scene.SOME, x -> x.set(0, what, n));
            for (int d : noDeeds(Scene.SOME)) refused("7: NONE deed, BAD", NONE, Scene.SOME, x -> x.set(d, 1, n));
            refused("7: BAD TRACE", BAD, Scene.SOME, x -> x.set(1, 0, n));
            refused("7: BAD ALIKE", BAD, Scene.SOME, x -> x.set(1, 1, n));
        }
        for (int n : TENS) {
            refused("7: BAD MARK", BAD, Scene.SOME, x -> x.set(1, 2, n));
            for (int d : noDeeds(Scene.SOME)) refused("7: NONE deed, BAD MARK", NONE, Scene.SOME, x -> x.set(d, 2, n));
        }
        refused("7: NONE deed, what", NONE, Scene.SOME, x -> x.set(3, 3, 0));
    }

    private static void hurry() {
        for (Scene scene : Scene.values()) {
            for (int n : Check.beyond(0, 20)) refused("8: hurry(" + n + ")", BAD, scene, x -> x.hurry(n));
        }
    }

    private static void doubt() {
        for (int yard : AHEAD) {
            refused("10: yard", NO_ANSWER, Scene.SOME, x -> x.doubt(0, yard));
            for (int d : noDeeds(Scene.SOME)) refused("10: both", NO_ANSWER, Scene.SOME, x -> x.doubt(d, yard));
        }
    }

    private static void told() {
        for (Scene scene : Scene.values()) {
            for (int what : Check.beyond(0, 4)) refused("11: told(" + what + ")", NONE, scene, x -> x.told(what));
        }
    }

    private static void pass() {
        for (Scene scene : Scene.values()) {
            for (int n : AHEAD) refused("12: pass(" + n + ")", BAD, scene, x -> x.pass(n));
        }
        refused("12: STATE", STATE, Scene.LATE, x -> x.pass(1));
        refused("12: STATE, by the most", STATE, Scene.LATE, x -> x.pass(60));
    }

    /** Just below and just above what is left till 9999. */
    private static void passLate() {
        for (int left = 0; left <= 60; left++) {
            DidITurnItOff x = new DidITurnItOff();
            x.deed(0, 0);
            for (int i = 0; i < 165; i++) x.pass(60);
            x.pass(39);
            x.pass(60 - left);
            c.due("12: one too many, of " + left, left == 60 ? BAD : STATE, x.pass(left + 1));
            c.due("12: MORNING stays, of " + left, 9999 - left, x.told(0));
            c.due("12: just so many, of " + left, 9999, x.pass(left));
        }
    }

    private static void on() {
        for (Scene scene : new Scene[] {Scene.BARE, Scene.SOME, Scene.FULL}) {
            int deeds = scene.deeds();
            int[] noWhats = {-1, 2, 9, 10 + deeds, 19, 20 + deeds, 29, 30, 0x7FFFFFFF, 0x80000000, 0x80000001,
                0x80000009, 0x8000000A, 0x80000013, 0x80000014};
            for (int what : noWhats) {
                refused("13: NONE " + what, NONE, scene, x -> x.on(0, what));
                for (int n : AHEAD) refused("13: NONE, BAD " + what, NONE, scene, x -> x.on(n, what));
            }
            for (int n : AHEAD) {
                refused("13: BAD LEFT", BAD, scene, x -> x.on(n, 0));
                refused("13: BAD HARM", BAD, scene, x -> x.on(n, 1));
                if (deeds == 0) continue;
                refused("13: BAD TRACE", BAD, scene, x -> x.on(n, 10));
                refused("13: BAD TRACE of the last", BAD, scene, x -> x.on(n, 9 + deeds));
                refused("13: BAD ALIKE", BAD, scene, x -> x.on(n, 20));
                refused("13: BAD ALIKE of the last", BAD, scene, x -> x.on(n, 19 + deeds));
            }
        }
    }

    private static void best() {
        for (int what : BITS) {
            refused("14: NONE", NONE, Scene.SOME, x -> x.best(0, what));
            for (int n : Check.beyond(0, 30)) refused("14: NONE, BAD", NONE, Scene.SOME, x -> x.best(n, what));
        }
        for (int n : Check.beyond(0, 30)) {
            for (Scene scene : Scene.values()) {
                refused("14: BAD, which", BAD, scene, x -> x.best(n, 0));
                refused("14: BAD, how much", BAD, scene, x -> x.best(n, 1));
            }
        }
    }

    private static void renew() {
        int[] noNs = Check.beyond(1, 8);
        for (int n : noNs) {
            refused("15: BAD n", BAD, Scene.SOME, x -> x.renew(0, n, 0));
            for (int d : noDeeds(Scene.SOME)) refused("15: NONE, BAD n", NONE, Scene.SOME, x -> x.renew(d, n, 0));
            for (int q : PERCENTS) {
                refused("15: BAD n, q", BAD, Scene.SOME, x -> x.renew(0, n, q));
                refused("15: NONE, BAD n, q", NONE, Scene.SOME, x -> x.renew(3, n, q));
            }
        }
        for (int q : PERCENTS) {
            refused("15: BAD q", BAD, Scene.SOME, x -> x.renew(0, 8, q));
            for (int d : noDeeds(Scene.SOME)) refused("15: NONE, BAD q", NONE, Scene.SOME, x -> x.renew(d, 8, q));
        }
    }

    private static void see() {
        int[] noNs = Check.beyond(0, 20);
        for (int d : noDeedsBelow(Scene.BARE)) refused("16: NONE, of none", NONE, Scene.BARE, x -> x.see(d, 0, true));
        for (int d : noDeedsBelow(Scene.SOME)) {
            refused("16: NONE", NONE, Scene.SOME, x -> x.see(d, 0, false));
            for (int n : noNs) refused("16: NONE, BAD", NONE, Scene.SOME, x -> x.see(d, n, false));
        }
        for (int d : noDeedsBelow(Scene.FULL)) {
            refused("16: NONE, FULL", NONE, Scene.FULL, x -> x.see(d, 20, true));
            for (int n : noNs) refused("16: NONE, BAD, FULL", NONE, Scene.FULL, x -> x.see(d, n, true));
        }
        for (int n : noNs) {
            refused("16: BAD", BAD, Scene.SOME, x -> x.see(2, n, true));
            refused("16: BAD, FULL", BAD, Scene.FULL, x -> x.see(5, n, true));
        }
        refused("16: FULL", FULL, Scene.FULL, x -> x.see(0, 0, true));
        refused("16: FULL, the last", FULL, Scene.FULL, x -> x.see(5, 20, false));
    }

    private static void asksOfSeen() {
        for (int what : BITS) {
            for (Scene scene : Scene.values()) refused("17: what", NONE, scene, x -> x.hurries(what));
            refused("18: what", NONE, Scene.SOME, x -> x.firm(0, what));
            for (int d : noDeeds(Scene.SOME)) refused("18: deed, what", NONE, Scene.SOME, x -> x.firm(d, what));
        }
    }

    private static void odds() {
        long no = Long.MIN_VALUE;
        int[] noDeeds = noDeeds(Scene.SOME);
        for (int n : AHEAD) {
            refused("20: n", no, Scene.SOME, x -> x.odds(0, n, 0));
            for (int d : noDeeds) refused("20: deed, n", no, Scene.SOME, x -> x.odds(d, n, 1));
            for (int part : BITS) refused("20: n, part", no, Scene.SOME, x -> x.odds(2, n, part));
        }
        for (int part : BITS) {
            refused("20: part", no, Scene.SOME, x -> x.odds(0, 60, part));
            for (int d : noDeeds) refused("20: deed, part", no, Scene.SOME, x -> x.odds(d, 60, part));
            refused("20: all", no, Scene.SOME, x -> x.odds(3, 61, part));
        }
    }

    private static void mean() {
        long no = Long.MIN_VALUE;
        refused("21: none", no, Scene.BARE, x -> x.mean(0));
        refused("21: none, below", no, Scene.BARE, x -> x.mean(1));
        for (int part : BITS) {
            refused("21: part", no, Scene.SOME, x -> x.mean(part));
            refused("21: none, part", no, Scene.BARE, x -> x.mean(part));
        }
    }

    private static void plan() {
        int[] noWhats = {-2, 4, Integer.MIN_VALUE, Integer.MAX_VALUE};
        for (Scene scene : new Scene[] {Scene.BARE, Scene.SOME}) {
            for (int what : noWhats) {
                refused("22: NONE what", NONE, scene, x -> x.plan(what, 0));
                refused("22: NONE what, a wrong n", NONE, scene, x -> x.plan(what, 21));
            }
            for (int d : noDeeds(scene)) {
                refused("22: NONE to look after", NONE, scene, x -> x.plan(1, d));
                refused("22: NONE to mark", NONE, scene, x -> x.plan(2, d));
            }
            for (int n : Check.beyond(0, 20)) refused("22: BAD", BAD, scene, x -> x.plan(3, n));
        }
    }

    private static void planFull() {
        for (int what : new int[] {-2, 4, Integer.MIN_VALUE, Integer.MAX_VALUE}) {
            refused("22: NONE what, FULL", NONE, Scene.FULL, x -> x.plan(what, 0));
        }
        for (int d : noDeeds(Scene.FULL)) {
            refused("22: NONE to look after, FULL", NONE, Scene.FULL, x -> x.plan(1, d));
            refused("22: NONE to mark, FULL", NONE, Scene.FULL, x -> x.plan(2, d));
        }
        for (int n : Check.beyond(0, 20)) refused("22: BAD, FULL", BAD, Scene.FULL, x -> x.plan(3, n));
        for (int n : AHEAD) refused("22: FULL, the other not looked at", FULL, Scene.FULL, x -> x.plan(0, n));
        refused("22: FULL to look after", FULL, Scene.FULL, x -> x.plan(1, 5));
        refused("22: FULL to mark", FULL, Scene.FULL, x -> x.plan(2, 0));
        refused("22: FULL to hurry", FULL, Scene.FULL, x -> x.plan(3, 20));
    }

    private static void done() {
        for (Scene scene : Scene.values()) {
            for (int what : BITS) refused("23: what", NONE, scene, x -> x.done(what));
        }
    }

    private static void book() {
        for (int d : noDeedsBelow(Scene.BARE)) refused("24: NONE, of none", NONE, Scene.BARE, x -> x.book(d, 0));
        for (int d : noDeedsBelow(Scene.SOME)) {
            refused("24: NONE", NONE, Scene.SOME, x -> x.book(d, 0));
            for (int n : PERCENTS) refused("24: NONE, BAD", NONE, Scene.SOME, x -> x.book(d, n));
        }
        for (int d : noDeedsBelow(Scene.FULL)) {
            refused("24: NONE, FULL", NONE, Scene.FULL, x -> x.book(d, 99));
            for (int n : PERCENTS) refused("24: NONE, BAD, FULL", NONE, Scene.FULL, x -> x.book(d, n));
        }
        for (int n : PERCENTS) {
            refused("24: BAD", BAD, Scene.SOME, x -> x.book(2, n));
            refused("24: BAD, FULL", BAD, Scene.FULL, x -> x.book(5, n));
        }
        refused("24: FULL", FULL, Scene.FULL, x -> x.book(0, 0));
        refused("24: FULL, the last", FULL, Scene.FULL, x -> x.book(5, 99));
    }

    /** A refused act changes nothing but THE TRACE, which is none then: as that of an untouched object, emptied. */
    private static void noAct(String told, int deed, int act) {
        DidITurnItOff x = Scene.SOME.make();
        c.due("26: x's bodies ahead of " + told, 7, x.count(6));
        c.due("26: " + told, 0, x.act(deed, act, 5));
        c.due("26: bodies behind " + told, 0, x.count(6));
        for (int i = 0; i < 8; i++) c.due("27: body " + i + " behind " + told, NONE, x.trace(i));
        x.act(2, 2, 7);
        c.same("26: behind " + told, Scene.print(Scene.SOME.make()), Scene.print(x));
    }

    private static void act() {
        for (int act : Check.beyond(0, 2)) {
            noAct("act " + act, 0, act);
            for (int d : noDeeds(Scene.SOME)) noAct("deed " + d + ", act " + act, d, act);
        }
        for (int d : noDeeds(Scene.SOME)) {
            for (int act = 0; act <= 2; act++) noAct("deed " + d, d, act);
        }
        for (int d : noDeeds(Scene.BARE)) refused("26: of none", 0, Scene.BARE, x -> x.act(d, 0, 5));
    }

    private static void trace() {
        for (int i : Check.beyond(0, 6)) refused("27: trace(" + i + ")", NONE, Scene.SOME, x -> x.trace(i));
        for (int i : new int[] {0, -1, 19, 20, 21, Integer.MIN_VALUE, Integer.MAX_VALUE}) {
            refused("27: no act yet, trace(" + i + ")", NONE, Scene.BARE, x -> x.trace(i));
        }
    }

    private static void as() {
        for (int k : Check.beyond(0, 6)) {
            refused("28: k", NONE, Scene.SOME, x -> x.as(0, k));
            for (int d : noDeeds(Scene.SOME)) refused("28: deed, k", NONE, Scene.SOME, x -> x.as(d, k));
        }
        for (int d : noDeeds(Scene.SOME)) refused("28: deed, another KIND", NONE, Scene.SOME, x -> x.as(d, 6));
        refused("28: another KIND", -6, Scene.SOME, x -> x.as(0, 6));
    }

    private static void undo() {
        refused("30: STATE", STATE, Scene.BARE, x -> x.undo());
        DidITurnItOff x = new DidITurnItOff();
        x.deed(3, 8);
        x.hurry(9);
        x.pass(4);
        c.due("30: no image yet", STATE, x.undo());
        c.due("30: nothing changes", 1000 + 90 + 4, x.count(0) * 1000 + x.told(2) * 10 + x.told(0));
        x.image();
        c.due("30: an image now", 1, x.undo());
    }

    private static void count() {
        for (Scene scene : Scene.values()) {
            for (int what : Check.beyond(0, 6)) refused("31: count(" + what + ")", NONE, scene, x -> x.count(what));
        }
    }
}
