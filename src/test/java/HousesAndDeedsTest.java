/** Promises 1 to 12: a new object, houses, deeds, and mornings that go. */
public final class HousesAndDeedsTest {
    private static final Check c = new Check();

    public static void main(String[] args) {
        newObject();
        feed();
        houses();
        faults();
        faultsOfLimits();
        clausesHold();
        deed();
        of();
        care();
        row();
        set();
        hurry();
        look();
        doubt();
        told();
        pass();
        c.end("HousesAndDeedsTest");
    }

    private static void newObject() {
        DidITurnItOff x = new DidITurnItOff();
        for (int what = 0; what <= 6; what++) c.due("1: count(" + what + ")", 0, x.count(what));
        c.due("1: MORNING", 0, x.told(0));
        c.due("1: WORRY", 2, x.told(1));
        c.due("1: HURRY", 5, x.told(2));
        c.due("1: HARM", 0, x.told(3));
        c.due("1: LEFT", 0, x.told(4));
        c.due("1: of", -999999, x.of(0, 0));
        c.due("1: undo", DidITurnItOff.STATE, x.undo());
    }

    private static void feed() {
        DidITurnItOff x = new DidITurnItOff();
        c.due("2: feed(-1)", DidITurnItOff.BAD, x.feed(-1));
        c.due("2: feed(128)", DidITurnItOff.BAD, x.feed(128));
        c.due("2: feed(0)", 1, x.feed(0));
        c.due("2: feed(127)", 2, x.feed(127));
        for (int i = 3; i <= 100; i++) c.due("2: feed, sign " + i, i, x.feed(65));
        c.due("2: feed, sign 101", DidITurnItOff.FULL, x.feed(65));
        c.due("2: a wrong sign ahead of FULL", DidITurnItOff.BAD, x.feed(128));
        c.due("2: signs", 100, x.count(5));
        c.due("2: house", -10, x.house());
        c.due("2: signs behind a FAULT", 0, x.count(5));
    }

    private static void houses() {
        DidITurnItOff x = new DidITurnItOff();
        c.due("3: first house", 0, Check.house(x, "worry 7"));
        c.due("3: its WORRY", 7, x.told(1));
        c.due("3: signs behind a house", 0, x.count(5));
        c.due("3: a FAULT", -17, Check.house(x, "worry 8x"));
        c.due("3: the one that held holds", 7, x.told(1));
        c.due("3: second house", 1, Check.house(x, "heed 1 p=0"));
        c.due("3: no worry", 2, x.told(1));
        c.due("3: third house", 2, Check.house(x, "worry 1;worry 99;heed 2 p=0;worry 0"));
        c.due("3: the last worry", 0, x.told(1));
        c.due("3: fourth house", 3, Check.house(x, "worry 12"));
        c.due("3: fifth house", 4, Check.house(x, "worry 13"));
        Check.feed(x, "?");
        c.due("3: a sixth, a wrong one too", DidITurnItOff.FULL, x.house());
        c.due("3: THE TAPE stays", 1, x.count(5));
        c.due("3: HOUSES", 5, x.count(1));
        c.due("3: the fifth holds", 13, x.told(1));
    }

    private static void fault(String text, int place) {
        DidITurnItOff x = new DidITurnItOff();
        c.due("3: FAULT of " + text, -10 - place, Check.house(x, text));
        c.due("3: HOUSES behind " + text, 0, x.count(1));
        c.due("3: THE TAPE behind " + text, 0, x.count(5));
    }

    private static void good(String text) {
        c.due("3: " + text, 0, Check.house(new DidITurnItOff(), text));
    }

    private static void faults() {
        fault("", 0);
        fault("w", 1);
        fault("wo ", 2);
        fault("h", 1);
        fault("hu", 1);
        fault("hes", 2);
        fault("hasty", 4);
        fault("Worry 1", 0);
        fault(" worry 1", 0);
        fault("worry  1", 6);
        fault("worry 1 ", 7);
        fault("worry 01", 7);
        fault("worry 100", 8);
        fault("worry 1;", 8);
        fault("worry 1;;", 8);
        fault("worry 1,worry 1", 7);
        fault("heed 1", 6);
        fault("heed 1 ", 7);
        fault("heed p=1", 5);
        fault("heed 1 q=1", 7);
        fault("heed 1 p", 8);
        fault("heed 1 p!1", 8);
        fault("heed 1 p=", 9);
        fault("heed 1 p=x", 9);
        fault("heed 1 p=01", 10);
        fault("heed 1 p=123", 11);
        fault("heed 1 p = 1", 8);
        fault("heed 1 p=1|", 11);
        fault("heed 1 p=1&|", 11);
        fault("heed 1 p=1)", 10);
        fault("heed 1 (p=1", 11);
        fault("heed 1 (p=1;", 11);
        fault("heed 1 ()", 8);
        fault("heed 1 !", 8);
        fault("heed 1 p=1!p=1", 10);
        fault("heed 1 (p=1)(", 12);
        fault("haste 1 p=1 ", 11);
        good("worry 0");
        good("worry 10;heed 0 p=0;haste 99 p=99");
        good("heed 1 !(p=1|!k<2&(v>3|a=4))&u=5|d<6");
    }

    private static void faultsOfLimits() {
        String ten = "worry 1;worry 1;worry 1;worry 1;worry 1;worry 1;worry 1;worry 1;worry 1;worry 1";
        good(ten);
        fault(ten + ";", 79);
        fault(ten + ";worry 1", 79);
        good("heed 1 !!!!!p=1");
        fault("heed 1 !!!!!!p=1", 12);
        good("heed 1 (((((p=1)))))");
        fault("heed 1 ((((((p=1))))))", 12);
        fault("heed 1 !(!(!(p=1))))", 12);
        good("heed 1 !!!!!p=1&!!!!!p=1|(((((p=1)))))|!(!(!p=1))");
        fault("heed 1 !!(!p=1&!!!p=1)", 17);
        good("heed 1 !!(!p=1&!!p=1)");
        good("heed 1 (p=1)&(p=1)&(p=1)&(p=1)&(p=1)&(p=1)&!p=1&!p=1&!p=1&!p=1&!p=1&!p=1");
        String hundred = "heed 1 p=1|p=1|p=1|p=1|p=1|p=1|p=1|p=1|p=1|p=1|p=1|p=1|p=1|p=1|p=1|p=1|p=1|p=1|p=1|p=1|p=1|p=1|p=12";
        c.due("3: a hundred", 100, hundred.length() + 1);
        good(hundred);
        fault(hundred + "|", 100);
    }

    /** Whether E holds of DEED 1 of two, an IRON with v 3. */
    private static void holds(String e, boolean isSo) {
        DidITurnItOff x = new DidITurnItOff();
        x.deed(0, 0);
        x.deed(3, 3);
        x.set(1, 1, 29);
        x.set(1, 2, 4);
        x.pass(12);
        x.set(1, 1, 29);
        x.set(1, 2, 4);
        c.due("3: house " + e, 0, Check.house(x, "heed 10 " + e));
        c.due("3: " + e, isSo ? 16 : 6, x.of(1, 7));
        c.due("3: house haste " + e, 1, Check.house(x, "haste 10 " + e));
        c.due("3: haste " + e, isSo ? -4 : 6, x.of(1, 7));
    }

    private static void clausesHold() {
        holds("p=1", true);
        holds("p<1", false);
        holds("p>0", true);
        holds("k=3", true);
        holds("k<3", false);
        holds("v=3", true);
        holds("v>3", false);
        holds("a=2", true);
        holds("a>2", false);
        holds("u=4", true);
        holds("u<4", false);
        holds("d=5", true);
        holds("d<5", false);
        holds("d>4", true);
        holds("p<10", true);
        holds("p>99", false);
        holds("!p=1", false);
        holds("!!p=1", true);
        holds("p=1&v=4", false);
        holds("p=1&v=3", true);
        holds("p=0|v=3", true);
        holds("p=0|v=4", false);
        holds("p=1|p=0&p=0", true);
        holds("(p=1|p=0)&p=0", false);
        holds("p=0&p=0|p=1", true);
        holds("p=0&(p=0|p=1)", false);
        holds("!p=0&p=0", false);
        holds("!(p=0&p=0)", true);
        holds("!p=1|p=1", true);
        holds("p=1&p=1&p=1|p=0&p=1", true);
        holds("p=1&(p=1)", true);
        holds("p=1&!(p=0)", true);
        holds("p=1&(p=0|p=1&(p=0|p=1&(p=0|p=1)))", true);
        holds("p=0|(p=0|p=1&(p=0|p=1&(p=0|p=0)))", false);
        holds("p=1&p=1&p=0|p=0&p=1", false);
    }

    private static void deed() {
        DidITurnItOff x = new DidITurnItOff();
        c.due("4: kind -1", DidITurnItOff.NONE, x.deed(-1, 99));
        c.due("4: kind 7", DidITurnItOff.NONE, x.deed(7, 0));
        c.due("4: v -1", DidITurnItOff.BAD, x.deed(0, -1));
        c.due("4: v 10", DidITurnItOff.BAD, x.deed(6, 10));
        for (int p = 0; p < 6; p++) c.due("4: deed " + p, p, x.deed(6 - p, p == 0 ? 9 : 0));
        c.due("4: a seventh", DidITurnItOff.FULL, x.deed(0, 0));
        c.due("4: kind ahead of FULL", DidITurnItOff.NONE, x.deed(7, 0));
        c.due("4: v ahead of FULL", DidITurnItOff.BAD, x.deed(0, 10));
        c.due("4: six", 6, x.count(0));
    }

    private static void of() {
        DidITurnItOff x = new DidITurnItOff();
        x.deed(4, 7);
        int[] want = {4, 7, 0, 50, 0, 0, 0, 15, 26};
        for (int what = 0; what <= 8; what++) c.due("5: of new, " + what, want[what], x.of(0, what));
        c.due("5: what 9", -999999, x.of(0, 9));
        c.due("5: what -1", -999999, x.of(0, -1));
        c.due("5: deed 1", -999999, x.of(1, 0));
        c.due("5: deed -1", -999999, x.of(-1, 0));
        x.look(0);
        x.hurry(20);
        c.due("5: CHECKS", 1, x.of(0, 6));
        x.set(0, 2, 3);
        x.pass(1);
        int[] later = {4, 7, 1, 23, 3, 3, 0, 15, 12};
        for (int what = 0; what <= 8; what++) c.due("5: of later, " + what, later[what], x.of(0, what));
        Check.house(x, "worry 0");
        c.due("5: BACK without WORRY", -5, x.of(0, 8));
        Check.house(x, "worry 1");
        x.set(0, 0, 59);
        c.due("5: BACK at the last yard", 60, x.of(0, 8));
        x.set(0, 0, 60);
        c.due("5: BACK beyond it", -5, x.of(0, 8));
        x.set(0, 0, 0);
        c.due("5: BACK at once", 1, x.of(0, 8));
    }

    private static void care() {
        DidITurnItOff x = new DidITurnItOff();
        for (int kind = 0; kind <= 6; kind++) {
            if (kind != 3) x.deed(kind, 5);
        }
        for (int p = 0; p < 6; p++) {
            x.set(p, 1, 39);
            x.set(p, 2, 2);
        }
        x.row(5, 0, 9);
        x.row(5, 1, 1);
        x.row(5, 2, 7);
        int[] first = {8, 13, 4, 13, 6, 14};
        for (int p = 0; p < 6; p++) c.due("5: CARE, deed " + p, first[p], x.of(p, 7));
        Check.house(x, "haste 11 p<9");
        int[] below = {-3, 2, -1, 2, 1, 3};
        for (int p = 0; p < 6; p++) c.due("5: CARE below, deed " + p, below[p], x.of(p, 7));
        x.pass(6);
        c.due("5: OVEN on the seventh morning", 0, x.of(3, 7));
        c.due("5: STOVE on it", 2, x.of(1, 7));
        c.due("5: TOLD then", -3 - 4 + 7, x.of(5, 7));
        x.pass(7);
        c.due("5: OVEN a week later", 0, x.of(3, 7));
        x.pass(1);
        c.due("5: OVEN the day behind", 2, x.of(3, 7));
        careByAlike();
    }

    private static void careByAlike() {
        DidITurnItOff x = new DidITurnItOff();
        x.deed(3, 0);
        x.deed(6, 0);
        x.deed(0, 0);
        Check.house(x, "heed 20 k=0&a=1;heed 40 k=0&a=9");
        int[] alike = {9, 10, 19, 20, 90, 99};
        int[] iron = {8, 7, 7, 6, -1, -1};
        int[] heeding = {8, 28, 28, 8, 48, 48};
        for (int i = 0; i < alike.length; i++) {
            for (int p = 0; p < 3; p++) x.set(p, 1, alike[i]);
            c.due("5: IRON by ALIKE " + alike[i], iron[i], x.of(0, 7));
            c.due("5: TOLD by ALIKE " + alike[i], iron[i], x.of(1, 7));
            c.due("3: a of ALIKE " + alike[i], heeding[i], x.of(2, 7));
        }
    }

    private static void row() {
        DidITurnItOff x = new DidITurnItOff();
        x.deed(6, 0);
        x.deed(3, 0);
        for (int k = 0; k < 4; k++) c.due("6: row " + k, 0, x.row(0, k, k + 6));
        for (int k = 0; k < 4; k++) c.due("6: row again " + k, k + 6, x.row(0, k, 0));
        c.due("6: deed 2", DidITurnItOff.NONE, x.row(2, 0, 0));
        c.due("6: deed -1", DidITurnItOff.NONE, x.row(-1, 0, 0));
        c.due("6: k 4", DidITurnItOff.NONE, x.row(0, 4, 10));
        c.due("6: k -1", DidITurnItOff.NONE, x.row(1, -1, 0));
        c.due("6: n 10", DidITurnItOff.BAD, x.row(0, 0, 10));
        c.due("6: n -1, not TOLD", DidITurnItOff.BAD, x.row(1, 0, -1));
        c.due("6: not TOLD", DidITurnItOff.STATE, x.row(1, 0, 0));
        x.row(0, 1, 5);
        c.due("6: CARE, morning 0", 8, x.of(0, 7));
        x.pass(1);
        c.due("6: CARE, morning 1", 13, x.of(0, 7));
        x.pass(4);
        c.due("6: CARE, morning 5", 13, x.of(0, 7));
    }

    private static void set() {
        DidITurnItOff x = new DidITurnItOff();
        x.deed(1, 1);
        c.due("7: TRACE", 50, x.set(0, 0, 99));
        c.due("7: TRACE again", 99, x.set(0, 0, 0));
        c.due("7: ALIKE", 0, x.set(0, 1, 99));
        c.due("7: ALIKE again", 99, x.set(0, 1, 98));
        c.due("7: MARK", 0, x.set(0, 2, 9));
        c.due("7: MARK again", 9, x.set(0, 2, 8));
        c.due("7: what they are", 98 * 10 + 8, x.of(0, 4) * 10 + x.of(0, 5));
        c.due("7: deed", DidITurnItOff.NONE, x.set(1, 0, 100));
        c.due("7: what 3", DidITurnItOff.NONE, x.set(0, 3, 0));
        c.due("7: what -1", DidITurnItOff.NONE, x.set(0, -1, 0));
        for (int what = 0; what <= 2; what++) c.due("7: n -1", DidITurnItOff.BAD, x.set(0, what, -1));
        c.due("7: TRACE 100", DidITurnItOff.BAD, x.set(0, 0, 100));
        c.due("7: ALIKE 100", DidITurnItOff.BAD, x.set(0, 1, 100));
        c.due("7: MARK 10", DidITurnItOff.BAD, x.set(0, 2, 10));
        c.due("7: unchanged", 0, x.of(0, 3));
    }

    private static void hurry() {
        DidITurnItOff x = new DidITurnItOff();
        c.due("8: hurry(20)", 5, x.hurry(20));
        c.due("8: hurry(21)", DidITurnItOff.BAD, x.hurry(21));
        c.due("8: hurry(-1)", DidITurnItOff.BAD, x.hurry(-1));
        c.due("8: hurry(0)", 20, x.hurry(0));
        c.due("8: HURRY", 0, x.told(2));
    }

    private static void look() {
        DidITurnItOff x = new DidITurnItOff();
        x.deed(0, 1);
        x.hurry(9);
        x.pass(1);
        c.due("9: LEFT", 1, x.look(0));
        c.due("9: LEFT no more", 0, x.look(0));
        c.due("9: TRACE of two", 80, x.of(0, 3));
        c.due("9: ALIKE of two", 5, x.of(0, 4));
        for (int i = 2; i < 9; i++) x.look(0);
        c.due("9: TRACE of nine", 10, x.of(0, 3));
        c.due("9: CHECKS of nine", 9, x.of(0, 6));
        x.look(0);
        x.look(0);
        c.due("9: TRACE of eleven", 0, x.of(0, 3));
        c.due("9: CHECKS of eleven", 9, x.of(0, 6));
        x.set(0, 1, 98);
        x.look(0);
        c.due("9: ALIKE at most", 99, x.of(0, 4));
        c.due("9: MARK stays", 0, x.of(0, 5));
        c.due("9: deed 1", DidITurnItOff.NONE, x.look(1));
        c.due("9: deed -1", DidITurnItOff.NONE, x.look(-1));
    }

    private static void doubt() {
        DidITurnItOff x = new DidITurnItOff();
        x.deed(0, 1);
        c.due("10: yard 0", -50, x.doubt(0, 0));
        c.due("10: yard 60", 70, x.doubt(0, 60));
        Check.house(x, "worry 99");
        c.due("10: worry 99", 5890, x.doubt(0, 60));
        c.due("10: yard 61", -999999, x.doubt(0, 61));
        c.due("10: yard -1", -999999, x.doubt(0, -1));
        c.due("10: deed 1", -999999, x.doubt(1, 0));
        c.due("10: deed -1", -999999, x.doubt(-1, 0));
    }

    private static void told() {
        DidITurnItOff x = new DidITurnItOff();
        x.deed(2, 3);
        x.deed(1, 3);
        x.deed(5, 0);
        x.pass(2);
        c.due("11: MORNING", 2, x.told(0));
        c.due("11: HARM", 2 * (4 + 1), x.told(3));
        c.due("11: LEFT", 5, x.told(4));
        c.due("11: what 5", DidITurnItOff.NONE, x.told(5));
        c.due("11: what -1", DidITurnItOff.NONE, x.told(-1));
    }

    private static void pass() {
        DidITurnItOff x = new DidITurnItOff();
        x.deed(0, 4);
        x.set(0, 1, 20);
        x.set(0, 2, 1);
        c.due("12: pass(0)", 0, x.pass(0));
        c.due("12: as it was", 50, x.of(0, 3));
        c.due("12: pass(1)", 1, x.pass(1));
        c.due("12: TRACE, done", 50 - 40 + 4, x.of(0, 3));
        c.due("12: MARK wears", 0, x.of(0, 5));
        c.due("12: ALIKE grows", 21, x.of(0, 4));
        x.set(0, 1, 0);
        x.set(0, 2, 9);
        x.pass(1);
        c.due("12: TRACE 86", 86, x.of(0, 3));
        x.set(0, 1, 99);
        x.pass(1);
        c.due("12: TRACE at least", 0, x.of(0, 3));
        c.due("12: ALIKE at most", 99, x.of(0, 4));
        x.look(0);
        x.hurry(9);
        x.set(0, 1, 10);
        x.pass(1);
        c.due("12: TRACE, left", 15, x.of(0, 3));
        c.due("12: MARK stays when left", 7, x.of(0, 5));
        c.due("12: CHECKS", 0, x.of(0, 6));
        c.due("12: HARM", 5, x.told(3));
        x.set(0, 1, 26);
        x.pass(1);
        c.due("12: TRACE, left, at least", 0, x.of(0, 3));
        x.hurry(8);
        x.pass(1);
        c.due("12: CARE as HURRY is enough", 0, x.of(0, 2));
        c.due("12: pass(61)", DidITurnItOff.BAD, x.pass(61));
        c.due("12: pass(-1)", DidITurnItOff.BAD, x.pass(-1));
        for (int i = 0; i < 166; i++) x.pass(60);
        c.due("12: MORNING", 9966, x.told(0));
        c.due("12: beyond 9999", DidITurnItOff.STATE, x.pass(34));
        c.due("12: BAD ahead of STATE", DidITurnItOff.BAD, x.pass(61));
        c.due("12: till 9999", 9999, x.pass(33));
        c.due("12: none more", DidITurnItOff.STATE, x.pass(1));
        c.due("12: pass(0) at the end", 9999, x.pass(0));
    }
}
