/** The edges of DEEDS and of MORNINGS that go (promises 1 and 4 to 12, and what ==== 1 says of them). */
public final class EdgesOfDeedsTest {
    private static final Check c = new Check();

    public static void main(String[] args) {
        newObject();
        deedsAreNumbered();
        atFirst();
        kindsAndNumbers();
        sumsBelow();
        careByHalf();
        careByAlike();
        careByMark();
        careOfOven();
        careByRow();
        rows();
        sets();
        hurries();
        careIsHurry();
        traceOfDone();
        traceOfLeft();
        markWears();
        alikeGrows();
        checksEnd();
        byHowAllIsAhead();
        harm();
        mostHarm();
        looks();
        looksOfAlike();
        doubts();
        back();
        told();
        passes();
        lastMorning();
        c.end("EdgesOfDeedsTest");
    }

    private static DidITurnItOff one(int kind, int v) {
        DidITurnItOff x = new DidITurnItOff();
        x.deed(kind, v);
        return x;
    }

    /** One of a KIND with that SUM: 8, by the heed or haste that makes it so. */
    private static DidITurnItOff ofSum(int kind, int v, int sum) {
        DidITurnItOff x = one(kind, v);
        int by = Math.abs(sum - 8);
        c.due("3: a house of SUM " + sum, 0, Check.house(x, (sum < 8 ? "haste " : "heed ") + by + " p=0"));
        return x;
    }

    private static void isSo(String told, DidITurnItOff x, int deed, int... want) {
        for (int what = 0; what < want.length; what++) c.due(told + ", of " + what, want[what], x.of(deed, what));
    }

    // ---- deeds

    private static void newObject() {
        DidITurnItOff x = new DidITurnItOff();
        for (int deed : new int[] {0, 1, 5, -1, Integer.MIN_VALUE, Integer.MAX_VALUE}) {
            c.due("1: of(" + deed + ")", -999999, x.of(deed, 0));
            c.due("1: doubt(" + deed + ")", -999999, x.doubt(deed, 0));
            c.due("1: look(" + deed + ")", -1, x.look(deed));
        }
        c.due("1: deeds of the image", 0, x.image());
        c.due("1: a morning of none", 1, x.pass(1));
        c.due("1: HARM of none", 0, x.told(3));
        c.due("1: LEFT of none", 0, x.told(4));
        c.due("1: sixty of none", 61, x.pass(60));
    }

    private static void deedsAreNumbered() {
        DidITurnItOff x = new DidITurnItOff();
        for (int deed = 0; deed < 6; deed++) {
            c.due("4: DEEDS", deed, x.count(0));
            c.due("5: not yet", -999999, x.of(deed, 0));
            c.due("4: number", deed, x.deed(deed + 1, deed + 4));
            c.due("5: KIND", deed + 1, x.of(deed, 0));
            c.due("5: v", deed + 4, x.of(deed, 1));
        }
        c.due("4: a seventh", -4, x.deed(0, 0));
        c.due("4: six at most", 6, x.count(0));
        c.due("5: no seventh", -999999, x.of(6, 0));
    }

    /** All is as at first, however late a DEED comes, and where another was before undo(). */
    private static void atFirst() {
        DidITurnItOff x = one(0, 0);
        isSo("4: at first", x, 0, 0, 0, 0, 50, 0, 0, 0, 8, 26);
        x.hurry(20);
        x.pass(60);
        c.due("4: late", 1, x.deed(6, 9));
        isSo("4: late", x, 1, 6, 9, 0, 50, 0, 0, 0, 8, 26);
        c.due("11: LEFT", 1, x.told(4));
        x.image();
        x.deed(6, 1);
        x.set(2, 0, 1);
        x.set(2, 1, 99);
        x.set(2, 2, 9);
        for (int k = 0; k < 4; k++) x.row(2, k, 9);
        x.pass(1);
        x.look(2);
        x.undo();
        c.due("4: behind undo", 2, x.deed(6, 8));
        isSo("4: behind undo", x, 2, 6, 8, 0, 50, 0, 0, 0, 8, 26);
        for (int k = 0; k < 4; k++) c.due("6: its ROW", 0, x.row(2, k, 0));
        x.undo();
        x.deed(6, 8);
        x.pass(1);
        x.undo();
        x.deed(0, 0);
        c.due("4: LEFT no more behind undo", 0, x.of(2, 2));
    }

    private static void kindsAndNumbers() {
        for (int kind = 0; kind <= 6; kind++) {
            for (int v : new int[] {0, 9}) {
                DidITurnItOff x = new DidITurnItOff();
                c.due("4: kind " + kind, 0, x.deed(kind, v));
                isSo("4: kind " + kind, x, 0, kind, v, 0, 50, 0, 0, 0);
            }
        }
    }

    // ---- CARE

    private static void sumsBelow() {
        for (int sum : new int[] {1, 0, -1, -2, -91}) {
            c.due("3: DEED of SUM " + sum, sum, ofSum(0, 9, sum).of(0, 7));
            c.due("3: STOVE of SUM " + sum, sum + 9, ofSum(1, 9, sum).of(0, 7));
            c.due("3: STOVE with v 0 of SUM " + sum, sum, ofSum(1, 0, sum).of(0, 7));
            c.due("3: IRON of SUM " + sum, sum, ofSum(3, 9, sum).of(0, 7));
            c.due("3: OVEN of SUM " + sum, sum + 9, ofSum(4, 9, sum).of(0, 7));
            c.due("3: TOLD of SUM " + sum, sum, ofSum(6, 9, sum).of(0, 7));
        }
    }

    /** Cut toward 0. */
    private static void careByHalf() {
        int[] sums = {9, 8, 3, 2, 1, 0, -1, -2, -3, -4, -91};
        int[] halves = {4, 4, 1, 1, 0, 0, 0, -1, -1, -2, -45};
        for (int i = 0; i < sums.length; i++) {
            c.due("3: DOOR of SUM " + sums[i], halves[i], ofSum(2, 9, sums[i]).of(0, 7));
            DidITurnItOff gate = ofSum(5, 9, sums[i]);
            c.due("3: GATE of SUM " + sums[i], halves[i], gate.of(0, 7));
            gate.set(0, 2, 1);
            c.due("3: GATE with MARK 1 of SUM " + sums[i], halves[i] + 1, gate.of(0, 7));
        }
    }

    private static void careByAlike() {
        int[] alikes = {0, 9, 10, 19, 20, 89, 90, 99};
        int[] less = {0, 0, 1, 1, 2, 8, 9, 9};
        for (int kind = 0; kind <= 6; kind++) {
            boolean isLess = kind == 3 || kind == 6;
            DidITurnItOff x = one(kind, 0);
            int care = kind == 2 || kind == 5 ? 4 : 8;
            for (int i = 0; i < alikes.length; i++) {
                x.set(0, 1, alikes[i]);
                c.due("3: kind " + kind + ", ALIKE " + alikes[i], isLess ? care - less[i] : care, x.of(0, 7));
            }
        }
    }

    private static void careByMark() {
        for (int kind = 0; kind <= 6; kind++) {
            DidITurnItOff x = one(kind, 0);
            int care = x.of(0, 7);
            for (int mark : new int[] {1, 9, 0}) {
                x.set(0, 2, mark);
                c.due("3: kind " + kind + ", MARK " + mark, kind == 5 ? care + mark : care, x.of(0, 7));
            }
        }
    }

    private static void careOfOven() {
        DidITurnItOff x = one(4, 9);
        x.deed(1, 9);
        x.deed(4, 0);
        for (int morning = 0; morning <= 21; morning++) {
            boolean isSeventh = morning == 6 || morning == 13 || morning == 20;
            c.due("3: OVEN, MORNING " + morning, isSeventh ? 0 : 17, x.of(0, 7));
            c.due("3: STOVE, MORNING " + morning, 17, x.of(1, 7));
            c.due("3: OVEN with v 0, MORNING " + morning, isSeventh ? 0 : 8, x.of(2, 7));
            x.pass(1);
        }
        DidITurnItOff below = ofSum(4, 3, -20);
        below.pass(5);
        c.due("3: OVEN below 0", -17, below.of(0, 7));
        below.pass(1);
        c.due("3: OVEN, 0 where it was below", 0, below.of(0, 7));
        below.hurry(0);
        below.pass(1);
        c.due("12: OVEN, 0 is HURRY", 0, below.of(0, 2));
        below.pass(1);
        c.due("12: OVEN, below HURRY", 1, below.of(0, 2));
    }

    private static void careByRow() {
        DidITurnItOff x = one(6, 0);
        for (int k = 0; k < 4; k++) x.row(0, k, 3 * k);
        for (int morning = 0; morning <= 8; morning++) {
            c.due("3: TOLD, MORNING " + morning, 8 + 3 * (morning % 4), x.of(0, 7));
            x.set(0, 1, 0);
            x.pass(1);
            x.set(0, 1, 0);
        }
        DidITurnItOff late = one(6, 0);
        late.row(0, 3, 9);
        for (int i = 0; i < 166; i++) late.pass(60);
        late.pass(38);
        late.set(0, 1, 0);
        c.due("3: TOLD, MORNING 9998", 8, late.of(0, 7));
        late.pass(1);
        late.set(0, 1, 0);
        c.due("3: TOLD, MORNING 9999", 17, late.of(0, 7));
    }

    // ---- row, set, hurry

    private static void rows() {
        DidITurnItOff x = one(6, 5);
        x.deed(6, 6);
        for (int k = 0; k < 4; k++) {
            c.due("6: at first", 0, x.row(0, k, 9));
            c.due("6: the most", 9, x.row(0, k, 0));
            c.due("6: the least", 0, x.row(0, k, k + 1));
        }
        for (int k = 0; k < 4; k++) c.due("6: of another", 0, x.row(1, k, 0));
        for (int k = 0; k < 4; k++) c.due("6: each its own", k + 1, x.row(0, k, k + 1));
    }

    private static void sets() {
        int[] most = {99, 99, 9};
        for (int what = 0; what <= 2; what++) {
            DidITurnItOff x = one(0, 0);
            int was = what == 0 ? 50 : 0;
            c.due("7: at first, " + what, was, x.set(0, what, most[what]));
            c.due("7: the most, of " + what, most[what], x.of(0, 3 + what));
            c.due("7: the most, " + what, most[what], x.set(0, what, 0));
            c.due("7: the least, of " + what, 0, x.of(0, 3 + what));
            c.due("7: the least, " + what, 0, x.set(0, what, 1));
            c.due("7: one beyond, " + what, -2, x.set(0, what, most[what] + 1));
            c.due("7: it stays, " + what, 1, x.of(0, 3 + what));
            for (int other = 0; other <= 2; other++) {
                if (other != what) c.due("7: others stay, " + other, other == 0 ? 50 : 0, x.of(0, 3 + other));
            }
        }
    }

    private static void hurries() {
        DidITurnItOff x = one(0, 0);
        int was = 5;
        for (int n : new int[] {0, 20, 1, 19}) {
            c.due("8: hurry(" + n + ")", was, x.hurry(n));
            c.due("8: HURRY", n, x.told(2));
            was = n;
        }
        for (int n : Check.beyond(0, 20)) c.due("8: hurry(" + n + ")", -2, x.hurry(n));
        c.due("8: it stays", 19, x.told(2));
    }

    // ---- mornings

    /** CARE that is HURRY is enough, one less is not; from HURRY 0 (CARE below 0) to 20. */
    private static void careIsHurry() {
        for (int hurry = 0; hurry <= 20; hurry++) {
            for (int by = -1; by <= 1; by++) {
                DidITurnItOff x = ofSum(0, 0, hurry + by);
                x.hurry(hurry);
                x.pass(1);
                c.due("12: CARE " + (hurry + by) + ", HURRY " + hurry, by < 0 ? 1 : 0, x.of(0, 2));
                c.due("12: and its HARM", by < 0 ? 1 : 0, x.told(3));
            }
        }
    }

    private static int traceBehind(int hurry, int alike, int mark) {
        DidITurnItOff x = one(0, 0);
        x.set(0, 1, alike);
        x.set(0, 2, mark);
        x.hurry(hurry);
        x.pass(1);
        return x.of(0, 3);
    }

    /** 0 at least; 86 is the most that there is. */
    private static void traceOfDone() {
        int[] alikes = {0, 0, 0, 1, 24, 25, 26, 99, 42, 43, 44, 99};
        int[] marks = {0, 1, 9, 9, 0, 0, 0, 0, 9, 9, 9, 9};
        int[] traces = {50, 54, 86, 84, 2, 0, 0, 0, 2, 0, 0, 0};
        for (int i = 0; i < alikes.length; i++) {
            c.due("12: done, ALIKE " + alikes[i] + ", MARK " + marks[i], traces[i], traceBehind(8, alikes[i], marks[i]));
        }
    }

    private static void traceOfLeft() {
        int[] alikes = {0, 1, 24, 25, 26, 99};
        int[] traces = {25, 24, 1, 0, 0, 0};
        for (int i = 0; i < alikes.length; i++) {
            c.due("12: left, ALIKE " + alikes[i], traces[i], traceBehind(9, alikes[i], 0));
            c.due("12: left, with a MARK, ALIKE " + alikes[i], traces[i], traceBehind(9, alikes[i], 9));
        }
    }

    private static void markWears() {
        DidITurnItOff x = one(0, 0);
        x.set(0, 2, 9);
        for (int mark = 8; mark >= 0; mark--) {
            x.pass(1);
            c.due("12: MARK wears", mark, x.of(0, 5));
        }
        x.pass(1);
        c.due("12: MARK, 0 at least", 0, x.of(0, 5));
        x.pass(60);
        c.due("12: MARK, 0 at least, later", 0, x.of(0, 5));
        x.hurry(20);
        for (int mark : new int[] {9, 1, 0}) {
            x.set(0, 2, mark);
            x.pass(1);
            c.due("12: MARK of one that is left", mark, x.of(0, 5));
        }
    }

    private static void alikeGrows() {
        for (int hurry : new int[] {0, 20}) {
            DidITurnItOff x = one(0, 0);
            x.hurry(hurry);
            x.pass(1);
            c.due("12: ALIKE 1", 1, x.of(0, 4));
            x.set(0, 1, 97);
            for (int alike : new int[] {98, 99, 99, 99}) {
                x.pass(1);
                c.due("12: ALIKE, 99 at most", alike, x.of(0, 4));
            }
            x.pass(60);
            c.due("12: ALIKE, 99 at most, later", 99, x.of(0, 4));
        }
    }

    private static void checksEnd() {
        for (int hurry : new int[] {0, 20}) {
            for (int checks : new int[] {0, 1, 9}) {
                DidITurnItOff x = one(0, 0);
                x.hurry(hurry);
                for (int i = 0; i < checks; i++) x.look(0);
                x.pass(0);
                c.due("12: CHECKS stay when no morning goes", checks, x.of(0, 6));
                x.pass(1);
                c.due("12: CHECKS, HURRY " + hurry, 0, x.of(0, 6));
                x.look(0);
                c.due("9: TRACE of the first look of a day", 90, x.of(0, 3));
            }
        }
    }

    /** CARE is by ALIKE, MARK, MORNING as they are ahead of the morning, not behind it. */
    private static void byHowAllIsAhead() {
        DidITurnItOff x = one(0, 0);
        x.deed(0, 0);
        x.deed(0, 0);
        Check.house(x, "haste 9 p=0&a=0;haste 9 p=1&u=1;haste 9 p=2&d=0");
        x.set(0, 1, 9);
        x.set(1, 2, 1);
        x.pass(1);
        c.due("12: all are left by how it was", 7, x.told(4));
        c.due("12: ALIKE is 10 now", 10, x.of(0, 4));
        c.due("12: MARK of one left stays", 1, x.of(1, 5));
        x.set(1, 2, 2);
        x.pass(1);
        c.due("12: none is left by how it was then", 0, x.told(4));
        c.due("12: MARK is 1 now", 1, x.of(1, 5));
        c.due("12: CARE of it now", -1, x.of(1, 7));
    }

    private static void harm() {
        for (int v : new int[] {0, 1, 9}) {
            DidITurnItOff x = one(0, v);
            x.deed(0, v);
            x.pass(1);
            c.due("12: HARM of none left", 0, x.told(3));
            Check.house(x, "heed 20 p=1");
            x.hurry(20);
            x.pass(1);
            c.due("12: HARM of one left, v " + v, v + 1, x.told(3));
            x.pass(2);
            c.due("12: HARM of three mornings, v " + v, 3 * (v + 1), x.told(3));
            Check.house(x, "worry 1");
            x.pass(1);
            c.due("12: HARM of both, v " + v, 5 * (v + 1), x.told(3));
            x.look(0);
            c.due("9: HARM stays", 5 * (v + 1), x.told(3));
        }
    }

    /** The most HARM that 9999 mornings do, and what is asked beyond them. */
    private static void mostHarm() {
        DidITurnItOff x = new DidITurnItOff();
        for (int deed = 0; deed < 6; deed++) x.deed(0, 9);
        x.hurry(20);
        for (int i = 0; i < 166; i++) x.pass(60);
        x.pass(39);
        c.due("12: HARM of all", 599940, x.told(3));
        c.due("12: all are left", 63, x.told(4));
        c.due("13: HARM now", 599940, x.on(0, 1));
        c.due("13: HARM of one more", 600000, x.on(1, 1));
        c.due("13: HARM of sixty more", 603540, x.on(60, 1));
        for (int i = 0; i < 8; i++) x.plan(0, 0);
        c.due("23: HARM of eight more", 600420, x.done(0));
        c.due("11: HARM as it was", 599940, x.told(3));
        c.due("12: none goes", -3, x.pass(1));
        c.due("12: HARM as it was", 599940, x.told(3));
    }

    // ---- looked after, doubt

    private static void looks() {
        DidITurnItOff x = one(0, 3);
        x.deed(0, 3);
        x.hurry(20);
        x.set(0, 2, 6);
        x.pass(1);
        c.due("9: it was LEFT", 1, x.look(0));
        isSo("9: once", x, 0, 0, 3, 0, 90, 3, 6, 1);
        c.due("9: it was LEFT no more", 0, x.look(0));
        isSo("9: twice", x, 0, 0, 3, 0, 80, 5, 6, 2);
        for (int checks = 3; checks <= 9; checks++) {
            x.look(0);
            isSo("9: looks " + checks, x, 0, 0, 3, 0, 100 - 10 * checks, 1 + 2 * checks, 6, checks);
        }
        for (int looks = 10; looks <= 12; looks++) {
            x.look(0);
            isSo("9: looks " + looks, x, 0, 0, 3, 0, 0, 1 + 2 * looks, 6, 9);
        }
        isSo("9: the other", x, 1, 0, 3, 1, 25, 1, 0, 0);
        c.due("9: MORNING and HARM stay", 1 + 8, x.told(0) + x.told(3));
    }

    private static void looksOfAlike() {
        int[] alikes = {0, 96, 97, 98, 99};
        int[] later = {2, 98, 99, 99, 99};
        for (int i = 0; i < alikes.length; i++) {
            DidITurnItOff x = one(0, 0);
            x.set(0, 1, alikes[i]);
            c.due("9: not LEFT", 0, x.look(0));
            c.due("9: ALIKE of " + alikes[i], later[i], x.of(0, 4));
            c.due("9: TRACE is by CHECKS alone", 90, x.of(0, 3));
        }
    }

    private static void doubts() {
        DidITurnItOff x = one(0, 0);
        for (int worry : new int[] {2, 0, 1, 99}) {
            if (worry != 2) Check.house(x, "worry " + worry);
            for (int trace : new int[] {0, 1, 99}) {
                x.set(0, 0, trace);
                for (int yard : new int[] {0, 1, 59, 60}) {
                    c.due("10: WORRY " + worry + ", TRACE " + trace + ", YARD " + yard, worry * yard - trace, x.doubt(0, yard));
                }
                for (int yard : Check.beyond(0, 60)) c.due("10: YARD " + yard, -999999, x.doubt(0, yard));
            }
        }
    }

    /** The first YARD above 0, which is not one at 0. */
    private static void back() {
        int[] worries = {0, 0, 1, 1, 1, 1, 1, 2, 2, 2, 99, 99, 50};
        int[] traces = {0, 99, 0, 1, 59, 60, 99, 98, 99, 0, 99, 98, 99};
        int[] yards = {-5, -5, 1, 2, 60, -5, -5, 50, 50, 1, 2, 1, 2};
        for (int i = 0; i < worries.length; i++) {
            DidITurnItOff x = one(0, 0);
            Check.house(x, "worry " + worries[i]);
            x.set(0, 0, traces[i]);
            c.due("5: BACK by WORRY " + worries[i] + ", TRACE " + traces[i], yards[i], x.of(0, 8));
        }
    }

    // ---- told, pass

    private static void told() {
        DidITurnItOff x = new DidITurnItOff();
        for (int deed = 0; deed < 6; deed++) x.deed(0, deed);
        x.hurry(20);
        x.pass(1);
        c.due("11: all are LEFT", 63, x.told(4));
        c.due("11: HARM", 21, x.told(3));
        for (int deed = 0; deed < 6; deed++) {
            x.look(deed);
            c.due("11: LEFT but till " + deed, 63 & -2 << deed, x.told(4));
        }
        c.due("11: what -1", -1, x.told(-1));
        c.due("11: what 5", -1, x.told(5));
    }

    private static void passes() {
        DidITurnItOff one = one(4, 2);
        DidITurnItOff many = one(4, 2);
        one.set(0, 2, 7);
        many.set(0, 2, 7);
        one.hurry(9);
        many.hurry(9);
        c.due("12: none goes", 0, many.pass(0));
        isSo("12: none goes", many, 0, 4, 2, 0, 50, 0, 7, 0);
        c.due("12: sixty go", 60, many.pass(60));
        for (int morning = 1; morning <= 60; morning++) c.due("12: one goes", morning, one.pass(1));
        c.same("12: sixty at once are sixty", Scene.print(one), Scene.print(many));
    }

    private static void lastMorning() {
        DidITurnItOff x = one(3, 0);
        for (int i = 0; i < 165; i++) x.pass(60);
        c.due("12: MORNING 9939", 9939, x.pass(39));
        x.image();
        c.due("12: sixty till 9999", 9999, x.pass(60));
        c.due("12: none more", 9999, x.pass(0));
        for (int n : new int[] {1, 2, 59, 60}) c.due("12: too many, " + n, -3, x.pass(n));
        x.undo();
        c.due("12: MORNING 9940", 9940, x.pass(1));
        c.due("12: sixty is too many", -3, x.pass(60));
        c.due("12: none of them went", 9940, x.told(0));
        c.due("12: 59 till 9999", 9999, x.pass(59));
        for (int n : Check.beyond(0, 60)) c.due("12: BAD ahead of STATE", -2, x.pass(n));
    }
}
