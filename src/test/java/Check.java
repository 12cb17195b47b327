/** What the tests share: counts and prints answers that are not as due, and feeds texts. */
final class Check {
    private int wrong = 0;
    private int asked = 0;

    void due(String call, long want, long got) {
        asked++;
        if (got == want) return;
        wrong++;
        if (wrong <= 40) System.out.println(call + " answered " + got + ", due is " + want);
    }

    void holds(String what, boolean isSo) {
        due(what, 1, isSo ? 1 : 0);
    }

    /** Numbers in a row: the first that is otherwise is told. */
    void same(String what, long[] want, long[] got) {
        int place = 0;
        while (place < want.length && place < got.length && want[place] == got[place]) place++;
        due(what + ": numbers as due", want.length, got.length == want.length ? place : -1);
    }

    /** Numbers just beyond, and the least and the greatest int. */
    static int[] beyond(int first, int last) {
        return new int[] {first - 1, last + 1, Integer.MIN_VALUE, Integer.MAX_VALUE};
    }

    static void feed(DidITurnItOff x, String text) {
        for (int i = 0; i < text.length(); i++) x.feed(text.charAt(i));
    }

    /** Feeds a text and reads it as a house. */
    static int house(DidITurnItOff x, String text) {
        feed(x, text);
        return x.house();
    }

    void end(String test) {
        System.out.println(test + ": " + (asked - wrong) + " answers as due, " + wrong + " not");
        if (wrong > 0) System.exit(1);
    }
}
