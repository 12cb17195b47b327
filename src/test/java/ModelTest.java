import java.util.Random;

/** Long runs of calls, made from fixed seeds: every answer is the model's. */
public final class ModelTest {
    private static final Check c = new Check();
    private static final int RUNS = 600;
    private static final int CALLS = 512;

    private final Random random;
    private final DidITurnItOff x = new DidITurnItOff();
    private final Model m = new Model();
    private int called = 0;

    private ModelTest(long seed) {
        random = new Random(seed);
    }

    public static void main(String[] args) throws ReflectiveOperationException {
        for (int run = 0; run < RUNS; run++) new ModelTest(run).run();
        c.end("ModelTest");
    }

    private void run() throws ReflectiveOperationException {
        int deeds = random.nextInt(7);
        for (int p = 0; p < deeds; p++) {
            int kind = random.nextInt(7);
            int v = random.nextInt(10);
            due("deed(" + kind + ", " + v + ")", m.deed(kind, v), x.deed(kind, v));
        }
        if (random.nextInt(3) > 0) feedHouse();
        // What a text and its house take is left free at the end.
        while (called < CALLS - 110) {
            int kind = random.nextInt(30);
            if (kind < 11) changes(kind);
            else if (kind < 20) asks(kind);
            else if (kind < 27) tells(kind);
            else rest(kind);
        }
    }

    private void due(String call, long want, long got) {
        called++;
        c.due(call + ", call " + called, want, got);
    }

    /** Mostly 0 .. last, now and then beyond. */
    private int some(int last) {
        switch (random.nextInt(40)) {
            case 0: return -1;
            case 1: return last + 1;
            case 2: return random.nextBoolean() ? Integer.MIN_VALUE : Integer.MAX_VALUE;
            case 3: return 0;
            case 4: return last;
            default: return random.nextInt(last + 1);
        }
    }

    private int someDeed() {
        return some(Math.max(0, m.deeds.size() - 1));
    }

    private void changes(int kind) throws ReflectiveOperationException {
        int d = someDeed();
        int a = some(2);
        int n = some(a == 2 ? 9 : 99);
        int k = some(3);
        switch (kind) {
            case 0: {
                int is = some(6);
                int v = some(9);
                due("deed(" + is + ", " + v + ")", m.deed(is, v), x.deed(is, v));
                break;
            }
            case 1: {
                int v = some(9);
                due("row(" + d + ", " + k + ", " + v + ")", m.row(d, k, v), x.row(d, k, v));
                break;
            }
            case 2:
            case 3:
                due("set(" + d + ", " + a + ", " + n + ")", m.set(d, a, n), x.set(d, a, n));
                break;
            case 4: {
                int h = some(20);
                due("hurry(" + h + ")", m.hurry(h), x.hurry(h));
                break;
            }
            case 5:
                due("look(" + d + ")", m.look(d), x.look(d));
                break;
            case 6:
            case 7:
            case 8: {
                int many = random.nextInt(3) == 0 ? some(60) : some(5);
                due("pass(" + many + ")", m.pass(many), x.pass(many));
                break;
            }
            default:
                if (random.nextInt(4) == 0) feedHouse();
        }
    }

    private void asks(int kind) {
        int d = someDeed();
        int two = some(1);
        int n = some(60);
        switch (kind) {
            case 11:
            case 12: {
                int what = random.nextBoolean() ? two : 10 + 10 * random.nextInt(2) + someDeed();
                due("on(" + n + ", " + what + ")", m.on(n, what), x.on(n, what));
                break;
            }
            case 13: {
                int minutes = some(30);
                due("best(" + minutes + ", " + two + ")", m.best(minutes, two), x.best(minutes, two));
                break;
            }
            case 14:
            case 15: {
                int many = 1 + some(7);
                int q = random.nextBoolean() ? some(99) : 20 + random.nextInt(50);
                due("renew(" + d + ", " + many + ", " + q + ")", m.renew(d, many, q), x.renew(d, many, q));
                break;
            }
            case 16:
                due("hurries(" + two + ")", m.hurries(two), x.hurries(two));
                break;
            case 17:
                due("firm(" + d + ", " + two + ")", m.firm(d, two), x.firm(d, two));
                break;
            case 18:
                due("alikes(" + d + ")", m.alikes(d), x.alikes(d));
                break;
            default:
                due("odds(" + d + ", " + n + ", " + two + ")", m.odds(d, n, two), x.odds(d, n, two));
                due("mean(" + two + ")", m.mean(two), x.mean(two));
        }
    }

    private void tells(int kind) {
        int d = random.nextInt(12) == 0 ? -1 : someDeed();
        switch (kind) {
            case 20:
            case 21: {
                int n = some(20);
                boolean isLeft = random.nextBoolean();
                if (!m.no(d) && !Model.off(n, 20) && random.nextInt(4) > 0) isLeft = m.copy().go(n).of(d, 2) == 1;
                due("see(" + d + ", " + n + ", " + isLeft + ")", m.see(d, n, isLeft), x.see(d, n, isLeft));
                break;
            }
            case 22:
            case 23: {
                int what = random.nextInt(16) == 0 ? -1 : some(3);
                int n = what == 3 ? some(20) : someDeed();
                due("plan(" + what + ", " + n + ")", m.plan(what, n), x.plan(what, n));
                break;
            }
            case 24:
                due("done", m.done(0), x.done(0));
                due("done", m.done(1), x.done(1));
                due("done", m.done(2), x.done(2));
                break;
            case 25: {
                int t = !m.no(d) && random.nextInt(4) > 0 ? m.deeds.get(d).trace : some(99);
                due("book(" + d + ", " + t + ")", m.book(d, t), x.book(d, t));
                break;
            }
            default:
                due("struck", m.struck(), x.struck());
        }
    }

    private void rest(int kind) {
        int d = someDeed();
        if (kind == 27) {
            int act = some(2);
            int n = random.nextBoolean() ? random.nextInt() : some(20);
            due("act(" + d + ", " + act + ", " + n + ")", m.act(d, act, n), x.act(d, act, n));
            for (int i = -1; i < 9; i++) due("trace(" + i + ")", m.trace(i), x.trace(i));
        } else if (kind == 28) {
            int k = some(6);
            int yard = some(60);
            due("as(" + d + ", " + k + ")", m.as(d, k), x.as(d, k));
            due("doubt(" + d + ", " + yard + ")", m.doubt(d, yard), x.doubt(d, yard));
            int what = some(8);
            due("of(" + d + ", " + what + ")", m.of(d, what), x.of(d, what));
        } else {
            int which = random.nextInt(12);
            if (which == 0) due("image", m.image(), x.image());
            if (which == 1) due("undo", m.undo(), x.undo());
            int what = some(4);
            due("told(" + what + ")", m.told(what), x.told(what));
            what = some(6);
            due("count(" + what + ")", m.count(what), x.count(what));
        }
    }

    private void feedHouse() {
        String text = clauses();
        if (random.nextInt(3) == 0 && !text.isEmpty()) text = spoilt(text);
        for (int i = 0; i < text.length(); i++) {
            due("feed of " + text, m.feed(text.charAt(i)), x.feed(text.charAt(i)));
        }
        if (random.nextInt(20) > 0) due("house of " + text, m.house(), x.house());
        for (int p = 0; p < m.deeds.size(); p++) due("CARE by " + text, m.of(p, 7), x.of(p, 7));
    }

    private String spoilt(String text) {
        int at = random.nextInt(text.length());
        char sign = "!()&|;<=>pkvaud0123 wh".charAt(random.nextInt(22));
        switch (random.nextInt(4)) {
            case 0: return text.substring(0, at);
            case 1: return text.substring(0, at) + sign + text.substring(at);
            case 2: return text.substring(0, at) + sign + text.substring(at + 1);
            default: return text.substring(0, at) + text.substring(at + 1);
        }
    }

    private String clauses() {
        StringBuilder text = new StringBuilder();
        int many = 1 + random.nextInt(random.nextInt(8) == 0 ? 11 : 5);
        for (int i = 0; i < many; i++) {
            if (i > 0) text.append(';');
            int word = random.nextInt(many > 6 ? 2 : 5);
            if (word == 0 || many > 6 && word == 1) text.append("worry ").append(random.nextInt(8));
            else if (word < 3) text.append("heed ").append(random.nextInt(12)).append(' ').append(either(0));
            else text.append("haste ").append(random.nextInt(12)).append(' ').append(either(0));
        }
        return text.toString();
    }

    private String either(int depth) {
        return random.nextInt(3) == 0 ? both(depth) + "|" + either(depth) : both(depth);
    }

    private String both(int depth) {
        return random.nextInt(3) == 0 ? factor(depth) + "&" + both(depth) : factor(depth);
    }

    private String factor(int depth) {
        int which = depth > 6 ? 9 : random.nextInt(7);
        if (which == 0) return "!" + factor(depth + 1);
        if (which == 1) return "(" + either(depth + 1) + ")";
        return "" + "pkvaud".charAt(random.nextInt(6)) + "<=>".charAt(random.nextInt(3))
            + (random.nextInt(9) == 0 ? random.nextInt(100) : random.nextInt(8));
    }
}
