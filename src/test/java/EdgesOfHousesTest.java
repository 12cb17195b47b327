/** The edges of THE TAPE and of HOUSES (promises 2 and 3, and what ==== 1 says of a HOUSE). */
public final class EdgesOfHousesTest {
    private static final Check c = new Check();

    public static void main(String[] args) {
        signs();
        tapeIsFull();
        tapeIsEmpty();
        housesAreNumbered();
        theNewestHolds();
        worryIsTheLast();
        clausesAreTenAtMost();
        numbers();
        numbersOfTests();
        oneBlank();
        openAreFiveAtMost();
        openEnds();
        endsTooEarly();
        firstByteOff();
        testsOfDeeds();
        testsOfAlikeAndMark();
        testsOfMorning();
        numbersCompare();
        nestedHold();
        fiveLongHouses();
        sums();
        c.end("EdgesOfHousesTest");
    }

    private static void good(String text) {
        c.due("3: " + text, 0, Check.house(new DidITurnItOff(), text));
    }

    private static void fault(String text, int place) {
        c.due("3: FAULT of " + text, -10 - place, Check.house(new DidITurnItOff(), text));
    }

    private static String times(String text, int n) {
        return text.repeat(n);
    }

    // ---- the tape

    private static void signs() {
        DidITurnItOff x = new DidITurnItOff();
        for (int sign = 0; sign <= 127; sign++) {
            if (sign == 64) c.due("2: a tape of wrong signs", -10, x.house());
            c.due("2: feed(" + sign + ")", sign % 64 + 1, x.feed(sign));
        }
        for (int sign : Check.beyond(0, 127)) c.due("2: feed(" + sign + ")", -2, x.feed(sign));
        c.due("2: signs", 64, x.count(5));
    }

    private static void tapeIsFull() {
        DidITurnItOff x = new DidITurnItOff();
        Check.feed(x, Scene.HUNDRED.substring(0, 98));
        c.due("2: the 99th", 99, x.feed(Scene.HUNDRED.charAt(98)));
        c.due("2: the 100th", 100, x.feed(Scene.HUNDRED.charAt(99)));
        c.due("2: the 101st", -4, x.feed('1'));
        c.due("2: the 101st again", -4, x.feed(127));
        c.due("2: signs of a full one", 100, x.count(5));
        c.due("3: a house of a full tape", 0, x.house());
        c.due("2: the first behind it", 1, x.feed('w'));
        c.due("3: its FAULT", -11, x.house());
        for (int i = 1; i <= 100; i++) c.due("2: sign " + i, i, x.feed('w'));
        c.due("2: full again", -4, x.feed('w'));
        c.due("3: a FAULT of a full tape", -11, x.house());
        c.due("2: signs behind it", 0, x.count(5));
    }

    private static void tapeIsEmpty() {
        DidITurnItOff x = new DidITurnItOff();
        c.due("3: nothing was fed", -10, x.house());
        c.due("3: HOUSES", 0, x.count(1));
        c.due("3: WORRY", 2, x.told(1));
        Check.house(x, "worry 6");
        c.due("3: empty behind a house", 0, x.count(5));
        c.due("3: nothing was fed since", -10, x.house());
        c.due("3: the one that held holds", 6, x.told(1));
        Check.house(x, "worry 7?");
        c.due("3: empty behind a FAULT", 0, x.count(5));
        c.due("3: nothing was fed since the FAULT", -10, x.house());
        c.due("3: the next number", 1, Check.house(x, "worry 8"));
    }

    // ---- houses

    private static void housesAreNumbered() {
        DidITurnItOff x = new DidITurnItOff();
        for (int house = 0; house < 5; house++) {
            c.due("3: HOUSES", house, x.count(1));
            c.due("3: a FAULT takes no number", -10, Check.house(x, "?"));
            c.due("3: HOUSES behind a FAULT", house, x.count(1));
            c.due("3: number", house, Check.house(x, "worry " + house));
        }
        c.due("3: a sixth of an empty tape", -4, x.house());
        c.due("3: HOUSES at most", 5, x.count(1));
        c.due("3: a sixth", -4, Check.house(x, "worry 9"));
        c.due("3: its tape stays", 7, x.count(5));
        c.due("3: the fifth holds", 4, x.told(1));
    }

    private static void theNewestHolds() {
        DidITurnItOff x = new DidITurnItOff();
        x.deed(0, 0);
        c.due("3: without a house", 8, x.of(0, 7));
        Check.house(x, "worry 5;heed 7 p=0");
        c.due("3: the first", 15, x.of(0, 7));
        Check.house(x, "haste 3 p=0");
        c.due("3: the second alone", 5, x.of(0, 7));
        c.due("3: the first one's WORRY is gone", 2, x.told(1));
        Check.house(x, "worry 3;haste 4 p=0;!");
        c.due("3: not one with a FAULT", 5, x.of(0, 7));
        c.due("3: nor its WORRY", 2, x.told(1));
        Check.house(x, "worry 3");
        c.due("3: one without heed and haste", 8, x.of(0, 7));
    }

    private static void worryIsTheLast() {
        DidITurnItOff x = new DidITurnItOff();
        c.due("3: WORRY without a house", 2, x.told(1));
        Check.house(x, "worry 0");
        c.due("3: WORRY, the least", 0, x.told(1));
        Check.house(x, "worry 99");
        c.due("3: WORRY, the most", 99, x.told(1));
        Check.house(x, "worry 1;heed 1 p=1;worry 4;haste 7 p=1");
        c.due("3: WORRY, the last of two", 4, x.told(1));
        Check.house(x, "heed 1 p=1");
        c.due("3: WORRY without worry", 2, x.told(1));
        Check.house(x, times("worry 1;", 9) + "worry 0");
        c.due("3: WORRY, the last of ten", 0, x.told(1));
    }

    private static void clausesAreTenAtMost() {
        String nine = times("worry 1;", 8) + "worry 1";
        good(nine);
        good(nine + ";worry 1");
        fault(nine + ";worry 1;", 79);
        fault(nine + ";worry 1;worry 1", 79);
        fault(nine + ";", 72);
        DidITurnItOff x = new DidITurnItOff();
        x.deed(0, 0);
        c.due("3: the tenth", 0, Check.house(x, times("worry 1;", 9) + "heed 3 p=0"));
        c.due("3: the tenth is heeded", 11, x.of(0, 7));
        c.due("3: the first and nine", 1, Check.house(x, "heed 5 p=0;" + times("worry 1;", 8) + "worry 9"));
        c.due("3: the first is heeded", 13, x.of(0, 7));
        c.due("3: nine of heed", 2, Check.house(x, times("heed 1 p=0;", 8) + "heed 1 p=0"));
        c.due("3: nine are heeded", 17, x.of(0, 7));
    }

    private static void numbers() {
        for (String word : new String[] {"worry ", "heed ", "haste "}) {
            String behind = word.equals("worry ") ? "" : " p=0";
            int at = word.length();
            for (int n : new int[] {0, 1, 9, 10, 11, 90, 99}) good(word + n + behind);
            fault(word + "00" + behind, at + 1);
            fault(word + "09" + behind, at + 1);
            fault(word + "100" + behind, at + 2);
            fault(word + "999" + behind, at + 2);
            fault(word + "-1" + behind, at);
            fault(word + "+1" + behind, at);
            fault(word + "/" + behind, at);
            fault(word + ":" + behind, at);
            fault(word + "1/" + behind, at + 1);
            fault(word + "1:" + behind, at + 1);
            fault(word + ";", at);
        }
    }

    private static void numbersOfTests() {
        for (char letter : "pkvaud".toCharArray()) {
            for (char sign : "<=>".toCharArray()) {
                String test = "heed 1 " + letter + sign;
                for (int n : new int[] {0, 9, 10, 99}) good(test + n);
                fault(test, 9);
                fault(test + "00", 10);
                fault(test + "01", 10);
                fault(test + "100", 11);
                fault(test + "990", 11);
                fault(test + "-1", 9);
            }
        }
    }

    private static void oneBlank() {
        fault("worry1", 5);
        fault("worry  1", 6);
        fault("worry\t1", 5);
        fault("heed1 p=0", 4);
        fault("heed  1 p=0", 5);
        fault("heed 1p=0", 6);
        fault("heed 1  p=0", 7);
        fault("haste1 p=0", 5);
        fault("haste  1 p=0", 6);
        fault("haste 1p=0", 7);
        fault("haste 1  p=0", 8);
        fault("worry 1 ;worry 1", 7);
        fault("worry 1; worry 1", 8);
        fault(" worry 1", 0);
        fault("worry 1 ", 7);
        fault("heed 1 p=0 ", 10);
        fault("heed 1 p =0", 8);
        fault("heed 1 p= 0", 9);
        fault("heed 1 ! p=0", 8);
        fault("heed 1 ( p=0)", 8);
        fault("heed 1 (p=0 )", 11);
        fault("heed 1 p=0 &p=0", 10);
        fault("heed 1 p=0& p=0", 11);
        fault("heed 1 p=0| p=0", 11);
    }

    // ---- ! and (

    /** So many of ! and (, as bits say (1: a parenthesis), a test, and what closes them. */
    private static String nested(int many, int bits) {
        StringBuilder text = new StringBuilder();
        for (int i = 0; i < many; i++) text.append((bits >> i & 1) == 1 ? '(' : '!');
        return text + "p=1" + times(")", Integer.bitCount(bits));
    }

    private static void openAreFiveAtMost() {
        for (int many = 1; many <= 5; many++) {
            for (int bits = 0; bits < 1 << many; bits++) good("heed 1 " + nested(many, bits));
        }
        for (int bits = 0; bits < 64; bits++) {
            fault("heed 1 " + nested(6, bits), 12);
            fault("heed 1 p=0|p=0&" + nested(6, bits), 20);
        }
        fault("heed 1 " + times("!", 90), 12);
        fault("heed 1 " + times("(", 90), 12);
    }

    /** A ( is open till its ), a ! till its F ends. */
    private static void openEnds() {
        for (int bits = 0; bits < 32; bits++) {
            String five = nested(5, bits);
            good("heed 1 " + five + "&" + five);
            good("heed 1 " + five + "|" + five);
            good("heed 1 " + five + ";haste 1 " + five);
            fault("heed 1 " + five + "&" + nested(6, bits), 7 + five.length() + 6);
        }
        for (int bits = 0; bits < 16; bits++) {
            String four = nested(4, bits);
            good("heed 1 (" + four + "&" + four + "|" + four + ")");
            good("heed 1 !(" + nested(3, bits & 7) + "|" + nested(3, bits & 7) + ")");
            fault("heed 1 (" + four + "&" + nested(5, bits) + ")", 8 + four.length() + 5);
            fault("heed 1 !(" + nested(3, bits & 7) + "|" + four + ")", 9 + nested(3, bits & 7).length() + 4);
        }
        good("heed 1 !p=1&!p=1&!p=1&!p=1&!p=1&!p=1&!p=1");
        good("heed 1 (p=1)|(p=1)|(p=1)|(p=1)|(p=1)|(p=1)");
        good("heed 1 !(!(p=1))&!!!!!p=1");
        fault("heed 1 ((p=1)|!!!!!p=1)", 18);
    }

    // ---- faults

    /** Each piece of a text: those at which a house can end are told by their sizes. */
    private static void endsTooEarly() {
        String text = "worry 12;heed 3 !p=4|(k<5&v>67);haste 8 a=9";
        int[] canEnd = {7, 8, 20, 31, 43};
        for (int size = 0; size <= text.length(); size++) {
            boolean isHouse = false;
            for (int end : canEnd) isHouse |= size == end;
            if (isHouse) good(text.substring(0, size));
            else fault(text.substring(0, size), size);
        }
        c.due("3: a hundred", 100, Scene.HUNDRED.length());
        good(Scene.HUNDRED);
        good(Scene.HUNDRED.substring(0, 99));
        fault(Scene.HUNDRED.substring(0, 98), 98);
        fault(Scene.HUNDRED.substring(0, 99) + "|", 100);
        fault(Scene.HUNDRED.substring(0, 99) + ")", 99);
    }

    /** Each byte behind each piece of a text, against a reader of another make. */
    private static void firstByteOff() {
        String[] texts = {"worry 12;heed 30 !p=4|(k<5&v>67)&u=0;haste 8 a=9|d=6", "heed 1 !(!(!p=12))|(((((u>0)))))",
            times("worry 1;", 9) + "heed 1 p=1"};
        for (String text : texts) {
            for (int size = 0; size <= text.length(); size++) {
                for (char sign = 0; sign <= 127; sign++) byteBehind(text.substring(0, size) + sign);
            }
        }
    }

    private static void byteBehind(String text) {
        int place = Model.fault(text);
        c.due("3: house of " + text, place < 0 ? 0 : -10 - place, Check.house(new DidITurnItOff(), text));
        // What comes behind a first wrong byte says nothing.
        if (place >= 0 && place < text.length()) fault(text + ";!p", place);
    }

    // ---- tests

    /** Whether E holds of that DEED: SUM is 8, and 50 if so. */
    private static void holds(DidITurnItOff x, int deed, String e, boolean isSo) {
        x.image();
        c.holds("3: house of " + e, Check.house(x, "heed 50 " + e) >= 0);
        c.due("3: " + e + " of deed " + deed, isSo ? 58 : 8, x.of(deed, 7));
        x.undo();
    }

    /** A letter that is n: one of < = > holds at each number, just below, at and just above. */
    private static void isJust(DidITurnItOff x, int deed, char letter, int n) {
        for (int by = Math.max(0, n - 1); by <= n + 1; by++) {
            holds(x, deed, letter + "<" + by, n < by);
            holds(x, deed, letter + "=" + by, n == by);
            holds(x, deed, letter + ">" + by, n > by);
        }
    }

    private static void testsOfDeeds() {
        for (int deed : new int[] {0, 5}) {
            DidITurnItOff x = new DidITurnItOff();
            for (int i = 0; i < 6; i++) x.deed(0, 0);
            isJust(x, deed, 'p', deed);
        }
        for (int v : new int[] {0, 9}) {
            DidITurnItOff x = new DidITurnItOff();
            x.deed(0, v);
            isJust(x, 0, 'v', v);
            isJust(x, 0, 'k', 0);
        }
        DidITurnItOff x = new DidITurnItOff();
        x.deed(6, 3);
        x.deed(3, 3);
        for (int kind : new int[] {0, 1, 3, 6}) holds(x, 0, "k=" + kind, kind == 6);
        holds(x, 0, "k>5", true);
        holds(x, 0, "k>6", false);
        holds(x, 1, "k=0", false);
        holds(x, 1, "k<4", true);
        holds(x, 1, "k<3", false);
    }

    private static void testsOfAlikeAndMark() {
        int[] alikes = {0, 9, 10, 19, 20, 89, 90, 99};
        int[] tens = {0, 0, 1, 1, 2, 8, 9, 9};
        for (int i = 0; i < alikes.length; i++) {
            DidITurnItOff x = new DidITurnItOff();
            x.deed(0, 0);
            x.set(0, 1, alikes[i]);
            isJust(x, 0, 'a', tens[i]);
        }
        for (int mark : new int[] {0, 1, 9}) {
            DidITurnItOff x = new DidITurnItOff();
            x.deed(0, 0);
            x.set(0, 2, mark);
            isJust(x, 0, 'u', mark);
        }
    }

    private static void testsOfMorning() {
        for (int morning = 0; morning <= 15; morning++) {
            DidITurnItOff x = new DidITurnItOff();
            x.deed(0, 0);
            x.pass(morning);
            isJust(x, 0, 'd', morning % 7);
        }
        DidITurnItOff late = new DidITurnItOff();
        late.deed(0, 0);
        for (int i = 0; i < 166; i++) late.pass(60);
        late.pass(39);
        c.due("3: MORNING 9999", 9999, late.told(0));
        isJust(late, 0, 'd', 3);
    }

    private static void numbersCompare() {
        DidITurnItOff x = new DidITurnItOff();
        x.deed(0, 9);
        holds(x, 0, "v<10", true);
        holds(x, 0, "v<99", true);
        holds(x, 0, "v>99", false);
        holds(x, 0, "v=99", false);
        holds(x, 0, "v=90", false);
        holds(x, 0, "p<0", false);
        holds(x, 0, "p>0", false);
        holds(x, 0, "p=0", true);
    }

    /** An odd number of ! turns what is in them, a ( does not; behind it goes on what was ahead of it. */
    private static void nestedHold() {
        for (int bits = 0; bits < 32; bits++) {
            DidITurnItOff x = new DidITurnItOff();
            x.deed(0, 0);
            x.deed(0, 0);
            String five = nested(5, bits);
            boolean isTurned = Integer.bitCount(bits) % 2 == 0;
            holds(x, 0, five, isTurned);
            holds(x, 1, five, !isTurned);
            holds(x, 0, "p=0&" + five, isTurned);
            holds(x, 0, "p=1|" + five, isTurned);
            holds(x, 1, five + "&p=1", !isTurned);
            holds(x, 1, five + "|p=0", !isTurned);
            holds(x, 1, "p=0&p=0|" + five + "&p=1|p=0", !isTurned);
        }
    }

    /** Houses of a hundred bytes each, as many as there can be (and few calls besides, of 512). */
    private static void fiveLongHouses() {
        DidITurnItOff x = new DidITurnItOff();
        x.deed(0, 0);
        for (int house = 0; house < 5; house++) {
            Check.feed(x, "heed 1" + house + " " + times("p=1|", 22) + (house % 2 == 0 ? "p<10" : "p=10"));
            c.due("2: signs of long house " + house, 100, x.count(5));
            c.due("3: long house " + house, house, x.house());
            if (house > 0) c.due("3: CARE by long house " + house, house % 2 == 0 ? 18 + house : 8, x.of(0, 7));
        }
    }

    private static void sums() {
        DidITurnItOff x = new DidITurnItOff();
        x.deed(0, 0);
        x.deed(2, 0);
        Check.house(x, times("heed 99 p<9;", 7) + "worry 0");
        c.due("3: SUM, most", 8 + 7 * 99, x.of(0, 7));
        Check.house(x, times("haste 99 p<9;", 6) + "haste 99 p<9");
        c.due("3: SUM, least", 8 - 7 * 99, x.of(0, 7));
        c.due("3: the half of the least, cut", -342, x.of(1, 7));
        Check.house(x, "heed 99 p=0;haste 99 p=0");
        c.due("3: SUM of both", 8, x.of(0, 7));
        Check.house(x, "heed 0 p=0;haste 0 p=0");
        c.due("3: SUM by none", 8, x.of(0, 7));
        Check.house(x, "heed 9 p=9;haste 9 p=8");
        c.due("3: SUM if none holds", 8, x.of(0, 7));
    }
}
