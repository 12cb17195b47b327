import java.util.ArrayList;
import java.util.HashSet;
import java.util.List;
import java.util.Set;
import java.util.function.Predicate;
import java.util.function.ToIntFunction;

/** What the document says, done in another way than the class does it: by copies, all sets, and texts read anew. */
final class Model {
    static class Deed implements Cloneable {
        Model m;
        int i, v, trace = 50, alike, mark, checks;
        boolean left;
        int[] row = new int[4];

        int kind() { return 0; }
        int care() { return m.sum(this); }
        int clicks(int x) { m.bodies.add(1); return x + i; }
        int pulls(int x) { m.bodies.add(2); return clicks(x) - v; }
        int looks(int x) { m.bodies.add(3); return pulls(x) * 2; }

        Deed copy(Model to) {
            try {
                Deed d = (Deed) clone();
                d.m = to;
                d.row = row.clone();
                return d;
            } catch (CloneNotSupportedException e) {
                throw new IllegalStateException(e);
            }
        }
    }

    static class Stove extends Deed {
        int kind() { return 1; }
        int care() { return super.care() + v; }
        int clicks(int x) { m.bodies.add(11); return super.clicks(x * 3); }
    }

    static class Door extends Deed {
        int kind() { return 2; }
        int care() { return (int) (super.care() * 0.5); }
        int pulls(int x) { m.bodies.add(21); return -super.pulls(x); }
    }

    static class Iron extends Deed {
        int kind() { return 3; }
        int care() { return super.care() - alike / 10; }
        int looks(int x) { m.bodies.add(31); return super.looks(x) ^ 7; }
    }

    static final class Oven extends Stove {
        int kind() { return 4; }
        int care() { return m.morning % 7 == 6 ? 0 : super.care(); }
        int looks(int x) { m.bodies.add(41); return super.looks(x - 1) + clicks(2); }
    }

    static final class Gate extends Door {
        int kind() { return 5; }
        int care() { return super.care() + mark; }
        int clicks(int x) { m.bodies.add(51); return super.clicks(x) ^ i; }
    }

    static final class Told extends Iron {
        int kind() { return 6; }
        int care() { return super.care() + row[m.morning % 4]; }
        int pulls(int x) { m.bodies.add(61); return super.pulls(x) + v; }
    }

    private static final Class<?>[] KINDS =
        {Deed.class, Stove.class, Door.class, Iron.class, Oven.class, Gate.class, Told.class};

    List<Deed> deeds = new ArrayList<>();
    int hurry = 5, morning, harm, houses;
    String house = "", tape = "";
    List<int[]> seen = new ArrayList<>(), plan = new ArrayList<>(), book = new ArrayList<>();
    List<Integer> bodies = new ArrayList<>();
    Model image;

    Model copy() {
        Model c = new Model();
        for (Deed d : deeds) c.deeds.add(d.copy(c));
        c.hurry = hurry;
        c.morning = morning;
        c.harm = harm;
        c.houses = houses;
        c.house = house;
        c.tape = tape;
        c.seen.addAll(seen);
        c.plan.addAll(plan);
        c.book.addAll(book);
        return c;
    }

    // ---- texts

    /** All that may come behind a text, kept as stacks of what is still due; a } ends what a ! or ( opened. */
    static int fault(String text) {
        Set<String> dues = new HashSet<>();
        dues.add("H");
        for (int at = 0; at < text.length(); at++) {
            Set<String> next = new HashSet<>();
            for (String due : dues) step(due, text.charAt(at), next);
            if (next.isEmpty()) return at;
            dues = next;
        }
        for (String due : dues) {
            if (canEnd(due)) return -1;
        }
        return text.length();
    }

    private static int marks(String due, char mark) {
        int n = 0;
        for (char sign : due.toCharArray()) {
            if (sign == mark) n++;
        }
        return n;
    }

    private static boolean canEnd(String due) {
        for (char sign : due.toCharArray()) {
            if ("}#?*+:".indexOf(sign) < 0) return false;
        }
        return true;
    }

    // H: a house. C: a clause (each that was begun leaves a # at the very end). : may go on with ; and a clause.
    // N: a number; ? its second digit, or none. E, T, F as told; * may go on with | and E; + with & and T.
    private static void step(String due, char sign, Set<String> next) {
        if (due.isEmpty()) return;
        char first = due.charAt(0);
        String rest = due.substring(1);
        switch (first) {
            case 'H': step("C:" + rest + "#", sign, next); break;
            case ':':
                if (sign == ';' && marks(rest, '#') < 10) next.add("C:" + rest + "#");
                break;
            case 'C':
                if (sign == 'w') next.add("orry N" + rest);
                if (sign == 'h') next.add("eed N E" + rest);
                if (sign == 'h') next.add("aste N E" + rest);
                break;
            case 'N':
                if (sign == '0') next.add(rest);
                if (sign >= '1' && sign <= '9') next.add("?" + rest);
                break;
            case '?':
                if (sign >= '0' && sign <= '9') next.add(rest);
                step(rest, sign, next);
                break;
            case 'E': step("T*" + rest, sign, next); break;
            case '*':
                if (sign == '|') next.add("E" + rest);
                step(rest, sign, next);
                break;
            case 'T': step("F+" + rest, sign, next); break;
            case '+':
                if (sign == '&') next.add("T" + rest);
                step(rest, sign, next);
                break;
            case 'F':
                boolean isRoom = marks(rest, '}') < 5;
                if (sign == '!' && isRoom) next.add("F}" + rest);
                if (sign == '(' && isRoom) next.add("E)}" + rest);
                if ("pkvaud".indexOf(sign) >= 0) next.add("SN" + rest);
                break;
            case 'S':
                if ("<=>".indexOf(sign) >= 0) next.add(rest);
                break;
            case '}': step(rest, sign, next); break;
            case '#': break;
            default:
                if (sign == first) next.add(rest);
        }
    }

    int worry() {
        int worry = 2;
        for (String clause : house.split(";")) {
            if (clause.startsWith("worry ")) worry = Integer.parseInt(clause.substring(6));
        }
        return worry;
    }

    int sum(Deed d) {
        int sum = 8;
        for (String clause : house.split(";")) {
            String[] parts = clause.split(" ");
            if (parts[0].equals("heed") && holds(parts[2], d)) sum += Integer.parseInt(parts[1]);
            if (parts[0].equals("haste") && holds(parts[2], d)) sum -= Integer.parseInt(parts[1]);
        }
        return sum;
    }

    private static int split(String e, char by) {
        int open = 0;
        for (int i = 0; i < e.length(); i++) {
            if (e.charAt(i) == '(') open++;
            if (e.charAt(i) == ')') open--;
            if (e.charAt(i) == by && open == 0) return i;
        }
        return -1;
    }

    private boolean holds(String e, Deed d) {
        int at = split(e, '|');
        if (at >= 0) return holds(e.substring(0, at), d) || holds(e.substring(at + 1), d);
        at = split(e, '&');
        if (at >= 0) return holds(e.substring(0, at), d) && holds(e.substring(at + 1), d);
        if (e.charAt(0) == '!') return !holds(e.substring(1), d);
        if (e.charAt(0) == '(') return holds(e.substring(1, e.length() - 1), d);
        int[] all = {d.i, d.kind(), d.v, d.alike / 10, d.mark, morning % 7};
        int it = all["pkvaud".indexOf(e.charAt(0))];
        int compared = Integer.compare(it, Integer.parseInt(e.substring(2)));
        return compared == "<=>".indexOf(e.charAt(1)) - 1;
    }

    // ---- mornings

    Model go(int n) {
        for (int k = 0; k < n; k++) {
            boolean[] isDone = new boolean[deeds.size()];
            for (Deed d : deeds) isDone[d.i] = d.care() >= hurry;
            for (Deed d : deeds) {
                d.left = !isDone[d.i];
                d.trace = d.left ? 25 - d.alike : 50 - d.alike - d.alike + 4 * d.mark;
                if (d.trace < 0) d.trace = 0;
                if (d.trace > 99) d.trace = 99;
                if (!d.left && d.mark > 0) d.mark--;
                if (d.alike < 99) d.alike++;
                d.checks = 0;
                if (d.left) harm += d.v + 1;
            }
            morning++;
        }
        return this;
    }

    static void lookAfter(Deed d) {
        d.left = false;
        d.trace = Math.max(0, 90 - 10 * d.checks);
        d.checks = Math.min(9, d.checks + 1);
        d.alike = Math.min(99, d.alike + 2);
    }

    private int bits(Predicate<Deed> is) {
        int bits = 0;
        for (Deed d : deeds) {
            if (is.test(d)) bits += 1 << d.i;
        }
        return bits;
    }

    int left() { return bits(d -> d.left); }

    boolean no(int deed) { return deed < 0 || deed >= deeds.size(); }

    static boolean off(int n, int last) { return n < 0 || n > last; }

    // ---- calls, by the face's names

    int feed(int sign) {
        if (off(sign, 127)) return -2;
        if (tape.length() == 100) return -4;
        tape += (char) sign;
        return tape.length();
    }

    int house() {
        if (houses == 5) return -4;
        String text = tape;
        tape = "";
        int fault = fault(text);
        if (fault >= 0) return -10 - fault;
        house = text;
        return houses++;
    }

    int deed(int kind, int v) throws ReflectiveOperationException {
        if (off(kind, 6)) return -1;
        if (off(v, 9)) return -2;
        if (deeds.size() == 6) return -4;
        Deed d = (Deed) KINDS[kind].getDeclaredConstructor().newInstance();
        d.m = this;
        d.i = deeds.size();
        d.v = v;
        deeds.add(d);
        return d.i;
    }

    int of(int deed, int what) {
        if (no(deed) || off(what, 8)) return -999999;
        Deed d = deeds.get(deed);
        if (what == 8) {
            int yard = 0;
            while (yard <= 60 && worry() * yard <= d.trace) yard++;
            return yard > 60 ? -5 : yard;
        }
        return new int[] {d.kind(), d.v, d.left ? 1 : 0, d.trace, d.alike, d.mark, d.checks, d.care()}[what];
    }

    int row(int deed, int k, int n) {
        if (no(deed) || off(k, 3)) return -1;
        if (off(n, 9)) return -2;
        Deed d = deeds.get(deed);
        if (!(d instanceof Told)) return -3;
        int was = d.row[k];
        d.row[k] = n;
        return was;
    }

    int set(int deed, int what, int n) {
        if (no(deed) || off(what, 2)) return -1;
        if (off(n, new int[] {99, 99, 9}[what])) return -2;
        int was = of(deed, 3 + what);
        Deed d = deeds.get(deed);
        if (what == 0) d.trace = n;
        if (what == 1) d.alike = n;
        if (what == 2) d.mark = n;
        return was;
    }

    int hurry(int n) {
        if (off(n, 20)) return -2;
        int was = hurry;
        hurry = n;
        return was;
    }

    int look(int deed) {
        if (no(deed)) return -1;
        int was = of(deed, 2);
        lookAfter(deeds.get(deed));
        return was;
    }

    int doubt(int deed, int yard) {
        return no(deed) || off(yard, 60) ? -999999 : worry() * yard - deeds.get(deed).trace;
    }

    int told(int what) {
        return off(what, 4) ? -1 : new int[] {morning, worry(), hurry, harm, left()}[what];
    }

    int pass(int n) {
        if (off(n, 60)) return -2;
        if (morning + n > 9999) return -3;
        go(n);
        if (harm > 999999) harm = 999999;
        return morning;
    }

    int on(int n, int what) {
        if (what != 0 && what != 1) {
            if (off(what, 29) || what < 10 || no(what % 10)) return -1;
        }
        if (off(n, 60)) return -2;
        Model then = copy().go(n);
        if (what < 2) return what == 0 ? then.left() : then.harm;
        return what < 20 ? then.deeds.get(what - 10).trace : then.deeds.get(what - 20).alike;
    }

    private int over(int bits, ToIntFunction<Deed> of) {
        int sum = 0;
        for (Deed d : deeds) {
            if ((bits & 1 << d.i) != 0) sum += of.applyAsInt(d);
        }
        return sum;
    }

    int best(int minutes, int what) {
        if (off(what, 1)) return -1;
        if (off(minutes, 30)) return -2;
        int most = -1, which = -1;
        for (int bits = (1 << deeds.size()) - 1; bits >= 0; bits--) {
            int worth = over(bits, d -> (d.v + 1) * Math.max(0, worry() * 20 - d.trace));
            if (over(bits, d -> d.v % 4 + 1) <= minutes && worth >= most) {
                most = worth;
                which = bits;
            }
        }
        return what == 0 ? which : most;
    }

    int renew(int deed, int n, int q) {
        if (no(deed)) return -1;
        if (n < 1 || n > 8 || off(q, 99)) return -2;
        for (int many = 0; many <= n; many++) {
            for (int bits = 0; bits < 1 << n; bits++) {
                if (Integer.bitCount(bits) == many && isRenewed(deed, n, q, bits)) return bits;
            }
        }
        return -5;
    }

    private boolean isRenewed(int deed, int n, int q, int bits) {
        Model then = copy();
        for (int k = 0; k < n; k++) {
            if ((bits >> k & 1) == 1) then.deeds.get(deed).mark = 9;
            if (then.go(1).deeds.get(deed).trace < q) return false;
        }
        return true;
    }

    int see(int deed, int n, boolean isLeft) {
        if (deed == -1) {
            seen.clear();
            return 0;
        }
        if (no(deed)) return -1;
        if (off(n, 20)) return -2;
        if (seen.size() == 5) return -4;
        seen.add(new int[] {deed, n, isLeft ? 1 : 0});
        return seen.size();
    }

    private boolean isSeen() {
        for (int[] one : seen) {
            if (copy().go(one[1]).of(one[0], 2) != one[2]) return false;
        }
        return true;
    }

    private static int tell(List<Integer> those, int what) {
        if (what == 0) return those.size();
        return those.isEmpty() ? -5 : those.get(0);
    }

    int hurries(int what) {
        if (off(what, 1)) return -1;
        List<Integer> those = new ArrayList<>();
        for (int n = 0; n <= 20; n++) {
            Model then = copy();
            then.hurry = n;
            if (then.isSeen()) those.add(n);
        }
        return tell(those, what);
    }

    int firm(int deed, int what) {
        if (no(deed) || off(what, 1)) return -1;
        List<Integer> those = new ArrayList<>();
        for (int n = 0; n <= 9; n++) {
            Model then = copy();
            then.deeds.get(deed).v = n;
            if (then.isSeen()) those.add(n);
        }
        return tell(those, what);
    }

    int alikes(int deed) {
        if (no(deed)) return -1;
        int bits = 0;
        for (int n = 0; n <= 90; n += 10) {
            Model then = copy();
            then.deeds.get(deed).alike = n;
            if (then.isSeen()) bits += 1 << n / 10;
        }
        return bits;
    }

    private static long fraction(int above, int below, int part) {
        for (int by = below; by > 1; by--) {
            if (above % by == 0 && below % by == 0) return part == 0 ? above / by : below / by;
        }
        return part == 0 ? above : below;
    }

    long odds(int deed, int n, int part) {
        if (no(deed) || off(n, 60) || off(part, 1)) return Long.MIN_VALUE;
        int many = 0;
        for (int h = 0; h <= 20; h++) {
            Model then = copy();
            then.hurry = h;
            many += then.go(n).of(deed, 2);
        }
        return fraction(many, 21, part);
    }

    long mean(int part) {
        if (off(part, 1) || deeds.isEmpty()) return Long.MIN_VALUE;
        return fraction(over(63, d -> d.trace), deeds.size(), part);
    }

    int plan(int what, int n) {
        if (what == -1) {
            plan.clear();
            return 0;
        }
        if (off(what, 3) || (what == 1 || what == 2) && no(n)) return -1;
        if (what == 3 && off(n, 20)) return -2;
        if (plan.size() == 8) return -4;
        plan.add(new int[] {what, n});
        return plan.size();
    }

    int done(int what) {
        if (off(what, 1)) return -1;
        Model then = copy();
        for (int[] one : plan) {
            switch (one[0]) {
                case 0 -> then.go(1);
                case 1 -> lookAfter(then.deeds.get(one[1]));
                case 2 -> then.deeds.get(one[1]).mark = 9;
                default -> then.hurry = one[1];
            }
        }
        return what == 0 ? then.harm : then.left();
    }

    int book(int deed, int trace) {
        if (deed == -1) {
            book.clear();
            return 0;
        }
        if (no(deed)) return -1;
        if (off(trace, 99)) return -2;
        if (book.size() == 8) return -4;
        book.add(new int[] {deed, trace});
        return book.size();
    }

    int struck() {
        for (int i = 0; i < book.size(); i++) {
            if (deeds.get(book.get(i)[0]).trace != book.get(i)[1]) return i;
        }
        return -5;
    }

    int act(int deed, int act, int x) {
        bodies.clear();
        if (no(deed) || off(act, 2)) return 0;
        Deed d = deeds.get(deed);
        return act == 0 ? d.clicks(x) : act == 1 ? d.pulls(x) : d.looks(x);
    }

    int trace(int i) {
        return i < 0 || i >= Math.min(20, bodies.size()) ? -1 : bodies.get(i);
    }

    int as(int deed, int k) {
        if (no(deed) || off(k, 6)) return -1;
        return KINDS[k].isInstance(deeds.get(deed)) ? deeds.get(deed).v : -6;
    }

    int image() {
        image = copy();
        return deeds.size();
    }

    int undo() {
        if (image == null) return -3;
        Model c = image.copy();
        for (Deed d : c.deeds) d.m = this;
        deeds = c.deeds;
        hurry = c.hurry;
        morning = c.morning;
        harm = c.harm;
        houses = c.houses;
        house = c.house;
        tape = c.tape;
        seen = c.seen;
        plan = c.plan;
        book = c.book;
        return deeds.size();
    }

    int count(int what) {
        if (off(what, 6)) return -1;
        return new int[] {deeds.size(), houses, seen.size(), plan.size(), book.size(), tape.length(), bodies.size()}[what];
    }
}
