import java.util.NoSuchElementException;
import java.util.Random;

/** Runs of many calls, drawn from fixed seeds, on the program and on the Model: they answer the same. */
public final class ModelTest {
    private static final int[] ODD = {
        -1, -2, 8, 9, 10, 13, 16, 40, 41, 60, 61, 99, 200, 201, 240, 999, 1000, 1 << 28, 1 << 29, 1 << 30,
        Integer.MAX_VALUE, Integer.MIN_VALUE,
    };

    /** An object is used for at most 512 calls; one round of this test makes up to 20. */
    private static final int CALLS = 490;

    private final Random random;
    private int calls = 0;
    private final StringBuilder story = new StringBuilder();
    private HubTree x = new HubTree();
    private Model m = new Model();

    private ModelTest(long seed) {
        random = new Random(seed);
    }

    /** With an argument: so many runs. */
    public static void main(String[] args) {
        int runs = args.length > 0 ? Integer.parseInt(args[0]) : 1200;
        int from = args.length > 1 ? Integer.parseInt(args[1]) : 0;
        for (int seed = from; seed < from + runs; seed++) {
            new ModelTest(seed).play(seed);
        }
        Checks.finish();
    }

    private void play(int seed) {
        boolean agreed = true;
        try {
            if (random.nextInt(12) > 0) {
                text(treeText(), 0);
            }
            for (int i = 0; i < 1000 && calls < CALLS && agreed; i++) {
                agreed = call();
            }
        } catch (RuntimeException e) {
            story.append(" threw ").append(e);
            agreed = false;
        }
        Checks.holds("run " + seed + (agreed ? "" : ": " + story), agreed);
    }

    private int pick(int n) {
        return random.nextInt(40) == 0 ? ODD[random.nextInt(ODD.length)] : random.nextInt(n);
    }

    private int dev() {
        return pick(Math.max(1, m.count(0)));
    }

    private int hub() {
        return random.nextInt(3) == 0 ? 8 : dev();
    }

    private boolean same(String call, long got, long want) {
        calls++;
        story.append(call).append(" = ").append(want).append("; ");
        if (got != want) {
            story.append("but the program answered ").append(got);
        }
        return got == want;
    }

    private boolean text(String text, int sort) {
        boolean same = same("end", x.end(0) ? 1 : 0, m.end(0));
        for (int from = 0; from < text.length(); from += 20) {
            int[] n = new int[5];
            for (int i = 0; i < 20 && from + i < text.length(); i++) {
                n[i / 4] |= text.charAt(from + i) << 24 - i % 4 * 8;
            }
            same &= same("feed", x.feed(n[0], n[1], n[2], n[3], n[4]), m.feed(n));
        }
        same &= same("'" + text + "' fault 0", x.fault(0), m.fault(0));
        same &= same("fault 1", x.fault(1), m.fault(1));
        return same && same("text " + sort, x.text(sort), m.text(sort));
    }

    private String spoilt(String text) {
        StringBuilder s = new StringBuilder(text);
        int times = random.nextInt(4);
        for (int i = 0; i < times; i++) {
            String signs = " ;sdnuobe0123456789ptz" + (char) 233;
            char c = signs.charAt(random.nextInt(signs.length()));
            int at = random.nextInt(s.length() + 1);
            if (at < s.length() && random.nextBoolean()) {
                s.setCharAt(at, c);
            } else {
                s.insert(at, c);
            }
        }
        return s.toString();
    }

    private void item(StringBuilder s, char letter, int low, int high, int chance) {
        if (random.nextInt(100) < chance) {
            s.append(random.nextInt(30) == 0 ? " " : "").append(letter);
            s.append(random.nextInt(30) == 0 ? " " : "").append(low + random.nextInt(high - low + 1));
        }
    }

    private String treeText() {
        StringBuilder s = new StringBuilder();
        int devices = random.nextInt(3) == 0 ? 8 : 1 + random.nextInt(8);
        int rules = random.nextInt(devices + 2);
        for (int i = 0; i <= devices; i++) {
            if (i == rules) {
                s.append(s.length() > 0 ? ";s" : "s");
                item(s, 'n', 1, 4, 30);
                item(s, 'd', 1, random.nextInt(6) == 0 ? 9 : 2, 80);
                item(s, 'r', 1, random.nextInt(6) == 0 ? 9 : 2, 80);
                item(s, 'y', 1, 5, 50);
                item(s, 'p', 1, 9, 50);
                item(s, 'm', 20, 200, 50);
                item(s, 'h', 10, 99, 50);
                item(s, 'a', 1, 9, 30);
            }
            if (i < devices) {
                s.append(s.length() > 0 ? ";d" : "d");
                item(s, 'n', 0, 4, 60);
                item(s, 's', 0, 2, 60);
                item(s, 'u', 0, random.nextInt(3) == 0 ? 9 : 2, 60);
                item(s, 'o', 0, 1, 60);
                item(s, 'b', 0, random.nextInt(3) == 0 ? 99 : 9, 60);
                item(s, 'e', 0, 3, 20);
            }
        }
        return s.toString();
    }

    private String scriptText() {
        StringBuilder s = new StringBuilder();
        int steps = 1 + random.nextInt(random.nextInt(5) == 0 ? 18 : 8);
        for (int i = 0; i < steps; i++) {
            s.append(i > 0 ? ";" : "");
            int d = random.nextInt(Math.max(1, m.count(0)) + (random.nextInt(9) == 0 ? 1 : 0)) % 10;
            switch (random.nextInt(7)) {
                case 0:
                case 1:
                    s.append('p').append(d).append(random.nextBoolean() ? 8 : random.nextInt(8)).append(random.nextInt(4));
                    break;
                case 2: s.append('u').append(d); break;
                case 3: s.append('t').append(random.nextInt(9) == 0 ? random.nextInt(100) : 1 + random.nextInt(20)); break;
                case 4: s.append('o').append(d); break;
                case 5: s.append('e').append(d).append(random.nextInt(4)); break;
                default: s.append('z').append(d); break;
            }
        }
        return s.toString();
    }

    private boolean call() {
        int kind = random.nextInt(100);
        return kind < 50 ? act() : kind < 54 ? past() : kind < 58 ? texts() : kind < 80 ? told() : foreseen();
    }

    private boolean act() {
        int d = dev();
        switch (random.nextInt(16)) {
            case 0:
            case 1:
            case 2:
            case 3: {
                int h = hub();
                int p = pick(4);
                return same("plug " + d + " " + h + " " + p, x.plug(d, h, p), m.plug(d, h, p));
            }
            case 4:
                return random.nextInt(3) > 0 || same("unplug " + d, x.unplug(d), m.unplug(d));
            case 5:
            case 6:
            case 7:
            case 8: {
                int n = random.nextInt(20) == 0 ? pick(61) : 1 + random.nextInt(12);
                return same("tick " + n, x.tick(n), m.tick(n));
            }
            case 9:
            case 10:
                return same("supply " + d, x.supply(d), m.supply(d));
            case 11: {
                int e = random.nextInt(3) > 0 ? 0 : pick(4);
                return same("error " + d + " " + e, x.error(d, e), m.error(d, e));
            }
            case 12:
                return same("again " + d, x.again(d), m.again(d));
            case 13:
            case 14:
                return same("sleep " + d, x.sleep(d), m.sleep(d));
            default: {
                int n = pick(41);
                long seed = random.nextLong();
                return random.nextInt(3) > 0 || same("years " + n + " " + seed, x.years(n, seed), m.years(n, seed));
            }
        }
    }

    private boolean past() {
        int what = random.nextInt(12);
        if (what < 8) {
            return same("undo", x.undo(), m.undo());
        }
        return what < 10 ? same("image", x.image(), m.image()) : same("back", x.back(), m.back());
    }

    private boolean texts() {
        int s = pick(4);
        switch (random.nextInt(10)) {
            case 0:
                return random.nextInt(4) > 0 || text(treeText(), 0);
            case 1:
                return text(spoilt(treeText()), random.nextInt(8) == 0 ? 0 : 2);
            case 2:
            case 3:
                return text(scriptText(), 1);
            case 4:
                return text(spoilt(scriptText()), 1);
            case 5: {
                int n = pick(250);
                return same("end " + n, x.end(n) ? 1 : 0, m.end(n));
            }
            case 6: {
                int a = random.nextInt();
                int b = random.nextInt() & 0xFF00FF;
                return same("feed " + a + " " + b, x.feed(a, b, 0, a, b), m.feed(a, b, 0, a, b));
            }
            default:
                return same("perform " + s, x.perform(s), m.perform(s));
        }
    }

    private boolean told() {
        int d = dev();
        int h = hub();
        int w = pick(14);
        switch (random.nextInt(14)) {
            case 0: return same("rule " + w, x.rule(w), m.rule(w));
            case 1: return same("told " + d + " " + w, x.told(d, w), m.told(d, w));
            case 2:
            case 3:
            case 4:
                return device(d, w);
            case 5: return same("port " + h + " " + w, x.port(h, w), m.port(h, w));
            case 6:
            case 7: {
                int what = pick(7);
                return same("hub " + h + " " + what, x.hub(h, what), m.hub(h, what));
            }
            case 8: return same("octet " + d + " " + w, x.octet(d, w), m.octet(d, w));
            case 9: return same("at " + w, x.at(w), m.at(w));
            case 10: return same("helper " + d, x.helper(d), m.helper(d));
            case 11: return same("status " + w, x.status(w), m.status(w));
            case 12: {
                int i = pick(62);
                int what = pick(4);
                return same("log " + i + " " + what, x.log(i, what), m.log(i, what));
            }
            default: return same("count " + w, x.count(w), m.count(w)) && same("all " + w, x.all(w), m.all(w));
        }
    }

    private boolean device(int d, int w) {
        long got;
        long want;
        try {
            got = x.device(d, w);
        } catch (NoSuchElementException e) {
            got = -99;
        }
        try {
            want = m.device(d, w);
        } catch (NoSuchElementException e) {
            want = -99;
        }
        return same("device " + d + " " + w, got, want);
    }

    private boolean foreseen() {
        int d = dev();
        int s = pick(4);
        int w = pick(2);
        switch (random.nextInt(12)) {
            case 0:
            case 1:
                return same("when " + d, x.when(d), m.when(d));
            case 2: {
                int n = pick(202);
                return same("ahead " + n + " " + w, x.ahead(n, w), m.ahead(n, w));
            }
            case 3: return same("last", x.last(), m.last());
            case 4:
            case 5:
                return same("place " + d, x.place(d), m.place(d));
            case 6: {
                int i = pick(4);
                return same("order " + i, x.order(i), m.order(i));
            }
            case 7: return same("lost " + d, x.lost(d), m.lost(d));
            case 8: {
                int c = pick(1000);
                return same("shares " + d + " " + c, x.shares(d, c), m.shares(d, c));
            }
            case 9: {
                int i = pick(16);
                int what = pick(5);
                return same("step " + s + " " + i + " " + what, x.step(s, i, what), m.step(s, i, what));
            }
            default: return same("run " + s + " " + w, x.run(s, w), m.run(s, w));
        }
    }
}
