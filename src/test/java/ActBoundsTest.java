import java.util.List;

/**
 * Promises 14 to 24, 36 and 37, part 4 of the Terms: each bound of ACTS, of TIME, of what can be UNDONE, of
 * the LOG, of STATUS, of YEARS and of IMAGES. Each method quotes the sentence that it holds.
 */
public final class ActBoundsTest {
    private static final int NONE = HubTree.NONE;
    private static final int HIDDEN = HubTree.HIDDEN;

    private ActBoundsTest() {}

    public static void main(String[] args) {
        portsOfHubs();
        hubsThatAreNotAway();
        awayByOne();
        ticksUpToSixty();
        timeUpToItsEnd();
        suppliesBothWays();
        errorsUpToThree();
        triedAgain();
        statusOfEach();
        firstOfSeveral();
        statusStays();
        fortyUndone();
        eachSortUndone();
        logUpToSixty();
        logBehindUndoing();
        sortsOfTheLog();
        yearsUpToForty();
        drawsOfYears();
        drawsGoRound();
        yearsByHand();
        images();
        imagesOfTheLog();
        imagesOfThisTree();
        anotherTree();
        upTo512Calls();
        Checks.finish();
    }

    private static int what(HubTree x, int d) {
        return Checks.device(x, d, 0);
    }

    private static void stands(String when, HubTree x, long... want) {
        for (int what = 0; what < 4; what++) {
            Checks.due(when + ": STATUS " + what, want[what], x.status(what));
        }
    }

    /** "into a free PORT": every PORT of a HUB of so many, and the one behind the last. */
    private static void portsOfHubs() {
        for (int ports = 1; ports <= 4; ports++) {
            HubTree x = Checks.withTree("sn" + ports + ";dn" + ports + ";d;d;d;d;d");
            Checks.due("below the first", NONE, x.plug(0, 8, -1));
            Checks.due("behind the last", NONE, x.plug(0, 8, ports));
            stands("no such PORT", x, 0, 2, 0, 0);
            Checks.due("the last", 1, x.plug(0, 8, ports - 1));
            for (int p = 0; p < ports; p++) {
                Checks.due("free PORTS", ports - p, x.hub(0, 5));
                Checks.due("PORT " + p, 2, x.plug(p + 1, 0, p));
                Checks.due("who is there", p + 1, x.port(0, p));
            }
            Checks.due("none free", 0, x.hub(0, 5));
            Checks.due("behind the last of a HUB", NONE, x.plug(5, 0, ports));
            stands("no such PORT of a HUB", x, 0, 3, 0, 0);
            Checks.due("not free", NONE, x.plug(5, 0, 0));
            stands("not free", x, 0, 3, 1, 0);
            x.unplug(1);
            Checks.due("free again", 2, x.plug(5, 0, 0));
        }
    }

    /** "of the ROOT or of a HUB that is not AWAY": whatever else it is. */
    private static void hubsThatAreNotAway() {
        HubTree x = Checks.withTree("sd2r2y1;dn4e2;d;d;d;d;d");
        Checks.due("AWAY", NONE, x.plug(1, 0, 0));
        x.plug(0, 8, 0);
        int[] whats = {1, 3, 4, 5, 7};
        int[] ticks = {2, 2, 1, 1, 0};
        for (int i = 0; i < whats.length; i++) {
            Checks.due("what the HUB is", whats[i], what(x, 0));
            Checks.due("PLUGGED into it", 2, x.plug(1, 0, 3));
            Checks.due("SETTLING", 1, what(x, 1));
            x.unplug(1);
            if (ticks[i] > 0) {
                x.tick(ticks[i]);
            }
        }
        x.error(0, 0);
        x.again(0);
        Checks.due("WAITING", 2, what(x, 0));
        Checks.due("PLUGGED into it", 2, x.plug(1, 0, 0));
        x.tick(5);
        Checks.due("CONFIGURED", 6, what(x, 0));
        Checks.due("PLUGGED into it", 2, x.plug(2, 0, 1));
    }

    /** "UNPLUGGED: how many are AWAY by it." */
    private static void awayByOne() {
        HubTree x = Checks.withTree("dn2;dn2;dn2;d;d;d");
        x.plug(0, 8, 0);
        x.plug(1, 0, 0);
        x.plug(2, 0, 1);
        x.plug(3, 1, 0);
        x.plug(4, 2, 0);
        x.plug(5, 8, 1);
        Checks.due("one alone", 1, x.unplug(3));
        Checks.due("it is AWAY now", NONE, x.unplug(3));
        Checks.due("one and one beneath", 2, x.unplug(2));
        Checks.due("what was beneath is AWAY", NONE, x.unplug(4));
        Checks.due("a HUB with a HUB", 2, x.unplug(0));
        Checks.due("the last", 1, x.unplug(5));
        stands("two were AWAY", x, 0, 0, 2, 0);
        Checks.due("all AWAY", 63, x.all(1));
    }

    /** "NONE: .. not 1 .. 60 (1)". */
    private static void ticksUpToSixty() {
        HubTree x = Checks.withTree("d");
        int time = 0;
        for (int n = 1; n <= 60; n++) {
            Checks.due("tick " + n, 0, x.tick(n));
            time += n;
            Checks.due("TIME", time, x.all(0));
        }
        for (int n : new int[] {Integer.MIN_VALUE, -1, 0, 61, Integer.MAX_VALUE}) {
            Checks.due("tick " + n, NONE, x.tick(n));
        }
        stands("out of bounds", x, 0, 5, 0, 0);
        Checks.due("TIME stays", time, x.all(0));
    }

    /** "TIME is one more (9,999 at most)"; "TIME would be above 9,999 (3)". */
    private static void timeUpToItsEnd() {
        for (int left = 0; left <= 61; left++) {
            HubTree x = Checks.atTime("d", 9999 - left);
            for (int n : new int[] {left + 2, left + 1}) {
                int status = n > 60 ? 1 : 3;
                Checks.due(n + " TICKS, " + left + " left", NONE, n < 1 ? NONE : x.tick(n));
                Checks.due("STATUS " + status, 1, Math.min(1, x.status(status)));
            }
            if (left >= 1 && left <= 60) {
                Checks.due("as many as are left", 0, x.tick(left));
                Checks.due("TIME at its end", 9999, x.all(0));
                Checks.due("no TICK more", NONE, x.tick(1));
                Checks.due("UNDONE", 9999 - left, x.undo() >= 0 ? x.all(0) : NONE);
            }
        }
        HubTree y = Checks.atTime("sd1r1;do1", 9999);
        Checks.due("PLUGGED at the end of TIME", 1, y.plug(0, 8, 0));
        Checks.due("SUPPLY at the end of TIME", 0, y.supply(0));
        Checks.due("ERROR at the end of TIME", 0, y.error(0, 1));
        Checks.due("image at the end of TIME", 9999, y.image());
        Checks.due("UNPLUGGED at the end of TIME", 1, y.unplug(0));
        Checks.due("back at the end of TIME", 9999, y.back());
        Checks.due("years at the end of TIME", 9999, y.years(40, 3));
        stands("nothing of that is counted", y, 0, 0, 0, 0);
    }

    /** "SUPPLY: whether it is on then (1, 0)"; "its SUPPLY (on at first, if OWN; else off)". */
    private static void suppliesBothWays() {
        HubTree x = Checks.withTree("do1;do0;dn1o1");
        Checks.due("on at first", 1, Checks.device(x, 0, 9));
        Checks.due("off at first", 0, Checks.device(x, 1, 9));
        Checks.due("HUBS with SUPPLY on", 4, x.all(10));
        for (int i = 0; i < 3; i++) {
            Checks.due("off", 0, x.supply(0));
            Checks.due("is off", 0, Checks.device(x, 0, 9));
            Checks.due("on", 1, x.supply(0));
            Checks.due("is on", 1, Checks.device(x, 0, 9));
        }
        Checks.due("none of its OWN", NONE, x.supply(1));
        x.supply(2);
        Checks.due("no HUB with SUPPLY on", 0, x.all(10));
        stands("one refused", x, 0, 0, 1, 0);
    }

    /** "ERROR is set: what it was. NONE: .. out of bounds (1), it is so (2)." */
    private static void errorsUpToThree() {
        for (int was = 0; was <= 3; was++) {
            for (int error = -1; error <= 4; error++) {
                HubTree x = Checks.withTree("d;de" + was);
                boolean bounded = error >= 0 && error <= 3;
                boolean so = bounded && error == was;
                Checks.due("error " + error + " where it is " + was, bounded && !so ? was : NONE, x.error(1, error));
                Checks.due("it is then", bounded ? error : was, x.told(1, 5));
                stands("error " + error, x, 0, bounded ? 0 : 1, so ? 1 : 0, 0);
                Checks.due("of that one alone", 0, x.told(0, 5));
            }
        }
    }

    /** "a REFUSED one is TRIED again (WAITING with the next TURN, FAILS 0)". */
    private static void triedAgain() {
        for (int d : new int[] {0, 1, 7}) {
            HubTree x = Checks.withTree("sd1r1y3" + ";de1".repeat(8));
            x.plug(d, 8, 0);
            x.tick(7);
            Checks.due("REFUSED", 7, what(x, d));
            Checks.due("FAILS 3", 3, Checks.device(x, d, 3));
            Checks.due("three TURNS were given", 4, x.again(d));
            Checks.due("WAITING", 2, what(x, d));
            Checks.due("FAILS 0", 0, Checks.device(x, d, 3));
            Checks.due("not WHY", 0, Checks.device(x, d, 8));
            x.tick(1 + 2 + 2);
            Checks.due("two of three TRIES more", 2, Checks.device(x, d, 3));
            x.tick(2);
            Checks.due("REFUSED again", 7, what(x, d));
        }
    }

    /** "STATUS: how many ACTS were refused as .."; "NONE: no such what." */
    private static void statusOfEach() {
        HubTree x = Checks.atTime("d;do1", 9990);
        long[] want = {0, 0, 0, 0};
        for (int i = 0; i < 5; i++) {
            stands("round " + i, x, want);
            x.plug(2, 8, 0);
            x.unplug(-1);
            x.supply(8);
            x.error(9, 0);
            x.again(2);
            x.sleep(2);
            want[0] += 6;
            x.plug(0, 8, 4);
            x.tick(61);
            x.error(0, 4);
            want[1] += 3;
            x.unplug(0);
            x.supply(0);
            x.error(0, 0);
            x.again(0);
            x.sleep(0);
            want[2] += 5;
            x.tick(10);
            want[3] += 1;
        }
        stands("five rounds", x, want);
        for (int what : new int[] {Integer.MIN_VALUE, -1, 4, 5, Integer.MAX_VALUE}) {
            Checks.due("status " + what, NONE, x.status(what));
        }
    }

    /** "of several the first". */
    private static void firstOfSeveral() {
        HubTree x = Checks.atTime("sn1;dn1;d;d", 9999);
        x.plug(0, 8, 0);
        x.plug(9, 9, 9);
        x.plug(9, 8, 0);
        x.plug(0, 9, 0);
        x.error(9, 9);
        stands("no such one ahead of bounds and of what is so", x, 4, 0, 0, 0);
        x.plug(0, 8, 1);
        x.plug(1, 0, 1);
        x.tick(0);
        x.tick(61);
        stands("out of bounds ahead of what is so and of TIME", x, 4, 4, 0, 0);
        x.plug(0, 8, 0);
        x.plug(0, 0, 0);
        x.plug(1, 8, 0);
        stands("it is so", x, 4, 4, 3, 0);
        x.tick(60);
        stands("TIME", x, 4, 4, 3, 1);
        HubTree y = new HubTree();
        y.tick(0);
        y.tick(61);
        y.error(0, 9);
        y.plug(0, 8, 9);
        stands("no TREE ahead of all", y, 4, 0, 0, 0);
    }

    /** "not UNDONE"; "all that was of another one is gone but SCRIPTS, STATUS"; "(no STATUS)". */
    private static void statusStays() {
        HubTree x = Checks.withTree("d;do1");
        Checks.script(x, "u0;t1");
        x.plug(0, 8, 0);
        x.image();
        x.plug(0, 8, 0);
        x.plug(0, 8, 9);
        x.tick(1);
        x.undo();
        stands("UNDONE", x, 0, 1, 1, 0);
        x.undo();
        stands("UNDONE", x, 0, 1, 1, 0);
        x.back();
        stands("BACK", x, 0, 1, 1, 0);
        x.perform(0);
        x.perform(0);
        x.run(0, 0);
        x.years(40, 99);
        stands("by SCRIPTS and YEARS", x, 0, 1, 1, 0);
        Checks.feed(x, "d");
        x.text(0);
        stands("another TREE", x, 0, 1, 1, 0);
        x.unplug(0);
        stands("and on", x, 0, 1, 2, 0);
    }

    /** "the latest 40 can be UNDONE one by one". */
    private static void fortyUndone() {
        for (int acts : new int[] {0, 1, 2, 39, 40, 41, 42, 79, 80, 81, 120}) {
            HubTree x = Checks.withTree("d");
            for (int i = 1; i <= acts; i++) {
                x.tick(1);
                Checks.due("ACTS that can be UNDONE", Math.min(i, 40), x.count(4));
            }
            int can = Math.min(acts, 40);
            for (int i = 1; i <= can; i++) {
                Checks.due("undo: how many still can be", can - i, x.undo());
                Checks.due("TIME", acts - i, x.all(0));
            }
            Checks.due("none", NONE, x.undo());
            Checks.due("TIME stays", acts - can, x.all(0));
            x.tick(1);
            Checks.due("an ACT more can be", 1, x.count(4));
            Checks.due("is UNDONE", 0, x.undo());
        }
    }

    /** One of each sort, where it can be: all is as it was when it is UNDONE. */
    private static void eachSortUndone() {
        Probes.Maker maker = ActBoundsTest::midst;
        Probes.Call[] acts = {
            x -> x.plug(5, 8, 2), x -> x.unplug(0), x -> x.unplug(3), x -> x.tick(1), x -> x.tick(60), x -> x.supply(0),
            x -> x.supply(5), x -> x.error(3, 3), x -> x.again(4), x -> x.sleep(2), x -> x.sleep(1), x -> x.perform(0),
            x -> x.supply(1),
        };
        for (int i = 0; i < acts.length; i++) {
            Probes.Call act = acts[i];
            Checks.holds("ACT " + i + " is done", act.on(maker.make()) >= 0);
            for (int probe = 0; probe < Probes.PROBES; probe++) {
                HubTree x = maker.make();
                int before = x.count(4);
                act.on(x);
                Checks.due("one ACT more", before + 1, x.count(4));
                Checks.due("UNDONE", before, x.undo());
                Probes.same("ACT " + i + " UNDONE, probe " + probe, Probes.read(probe, maker.make()), Probes.read(probe, x));
            }
        }
    }

    /** 0 a HUB, 1 ASLEEP beneath it, 2 awake at the ROOT, 3 at a bite beneath 0, 4 REFUSED, 5 AWAY. */
    private static HubTree midst() {
        HubTree x = Checks.withTree("sd1r2y1p2;dn4o1u3b0;do1u2;dn3;d;de1;dn1o1");
        Checks.script(x, "u2");
        x.plug(0, 8, 0);
        x.plug(1, 0, 1);
        x.plug(2, 8, 1);
        x.plug(4, 8, 3);
        x.tick(30);
        x.sleep(1);
        x.image();
        x.plug(3, 0, 0);
        x.tick(3);
        return x;
    }

    /** "The LOG: .. the latest 60"; "HIDDEN: no such ones." */
    private static void logUpToSixty() {
        for (int acts : new int[] {0, 1, 59, 60, 61, 62, 99, 100, 101, 119, 120, 121, 160}) {
            HubTree x = Checks.withTree("d");
            for (int i = 1; i <= acts; i++) {
                x.tick(i % 60 + 1);
            }
            int length = Math.min(acts, 60);
            Checks.due("how long the LOG is", length, x.count(3));
            for (int i = 0; i < length; i++) {
                Checks.due("sort " + i, 2, x.log(i, 0));
                Checks.due("number " + i, (acts - i) % 60 + 1, x.log(i, 1));
                Checks.due("CONFIGURED " + i, 0, x.log(i, 2));
            }
            for (int i : new int[] {Integer.MIN_VALUE, -1, length, length + 1, 60, 61, 100, Integer.MAX_VALUE}) {
                Checks.due("log " + i + " of " + length, HIDDEN, x.log(i, 0));
            }
            for (int what : new int[] {Integer.MIN_VALUE, -1, 3, 4, Integer.MAX_VALUE}) {
                Checks.due("log what " + what, HIDDEN, x.log(0, what));
            }
        }
    }

    /** "the latest 40 can be UNDONE one by one (the LOG, too)": what fell out of it comes back. */
    private static void logBehindUndoing() {
        for (int acts : new int[] {1, 40, 59, 60, 61, 80, 100, 101, 140}) {
            HubTree x = Checks.withTree("d");
            for (int i = 1; i <= acts; i++) {
                x.tick(i % 60 + 1);
            }
            for (int left = acts - 1; left >= Math.max(0, acts - 40); left--) {
                x.undo();
                int length = Math.min(left, 60);
                Checks.due("how long the LOG was", length, x.count(3));
                Checks.due("the latest", left == 0 ? HIDDEN : left % 60 + 1, x.log(0, 1));
                Checks.due("the last", length == 0 ? HIDDEN : (left - length + 1) % 60 + 1, x.log(length - 1, 1));
                Checks.due("none behind", HIDDEN, x.log(length, 1));
            }
        }
    }

    /** "of each ACT its sort (0 PLUGGED, ..), a number (..), how many are CONFIGURED then". */
    private static void sortsOfTheLog() {
        HubTree x = Checks.withTree("sd1r1y1;d;dn1o1;de1");
        x.plug(2, 8, 0);
        Checks.due("PLUGGED", 0 + 10 * 2 + 100 * 0, entry(x));
        x.plug(1, 8, 1);
        x.tick(3);
        Checks.due("TICKS", 2 + 10 * 3, entry(x));
        x.tick(5);
        Checks.due("TICKS, CONFIGURED then", 2 + 10 * 5 + 100, entry(x));
        x.supply(1);
        Checks.due("SUPPLY", 3 + 10 + 100, entry(x));
        x.error(2, 0);
        Checks.due("ERROR", 4 + 10 * 2 + 100, entry(x));
        x.again(2);
        Checks.due("TRIED", 5 + 10 * 2 + 100, entry(x));
        x.sleep(1);
        Checks.due("ASLEEP counts as CONFIGURED", 6 + 10 + 100, entry(x));
        x.sleep(1);
        Checks.due("awake", 6 + 10 + 100, entry(x));
        x.unplug(1);
        Checks.due("UNPLUGGED", 1 + 10, entry(x));
        Checks.due("ten ACTS", 10, x.count(3));
        x.unplug(1);
        Checks.due("what is refused is not in it", 10, x.count(3));
    }

    private static int entry(HubTree x) {
        return x.log(0, 0) + 10 * x.log(0, 1) + 100 * x.log(0, 2);
    }

    /** "YEARS by a seed: n (1 .. 40) times". */
    private static void yearsUpToForty() {
        for (int n : new int[] {Integer.MIN_VALUE, -1, 0, 41, 42, Integer.MAX_VALUE}) {
            HubTree x = Checks.withTree("d");
            Checks.due("years " + n, NONE, x.years(n, 4));
            Checks.due("no ACT", 0, x.count(3));
            stands("years " + n, x, 0, 0, 0, 0);
        }
        for (int n = 1; n <= 40; n++) {
            HubTree x = Checks.withTree("d");
            HubTree y = Checks.withTree("d");
            long[] seed = {n};
            int time = x.years(n, n);
            for (int i = 0; i < n; i++) {
                oneYear(y, seed, 1);
            }
            Checks.due("years " + n + ": TIME", y.all(0), time);
            Checks.due("years " + n + ": ACTS", y.count(3), x.count(3));
            Checks.due("years " + n + ": the latest", y.log(0, 1), x.log(0, 1));
        }
    }

    /** Every draw of a YEAR, by seeds that are found for it, and what it does. */
    private static void drawsOfYears() {
        boolean[] lots = new boolean[8];
        boolean[] ticks = new boolean[10];
        boolean[] ports = new boolean[4];
        boolean[] hubs = new boolean[9];
        for (long seed = 0; seed < 600; seed++) {
            HubTree x = Checks.withTree("dn4o1;dn2o1;d;do1;dn4");
            x.plug(0, 8, 0);
            x.tick(10);
            HubTree y = Checks.withTree("dn4o1;dn2o1;d;do1;dn4");
            y.plug(0, 8, 0);
            y.tick(10);
            long[] s = {seed * 77777777777L};
            x.years(1, seed * 77777777777L);
            oneYear(y, s, 5);
            long[] again = {seed * 77777777777L};
            int lot = draw(again, 8);
            lots[lot] = true;
            if (lot <= 2) {
                draw(again, 5);
                hubs[draw(again, 6)] = true;
                ports[draw(again, 4)] = true;
            } else if (lot >= 4 && lot <= 6) {
                ticks[draw(again, 9) + 1] = true;
            }
            Checks.due("TIME", y.all(0), x.all(0));
            Checks.due("ACTS", y.count(3), x.count(3));
            Checks.due("sort", y.log(0, 0), x.log(0, 0));
            Checks.due("number", y.log(0, 1), x.log(0, 1));
            for (int d = 0; d < 5; d++) {
                Checks.due("HUB", y.device(d, 4), x.device(d, 4));
                Checks.due("PORT", y.device(d, 5), x.device(d, 5));
                Checks.due("SUPPLY", y.device(d, 9), x.device(d, 9));
            }
        }
        for (int i = 0; i < 8; i++) {
            Checks.holds("lot " + i + " was drawn", lots[i]);
            Checks.holds("PORT was drawn", ports[i % 4]);
            Checks.holds("HUB was drawn", hubs[i % 6]);
        }
        for (int i = 1; i <= 9; i++) {
            Checks.holds(i + " TICKS were drawn", ticks[i]);
        }
    }

    /** "x .. becomes x times .. (64 bits, going round); a draw: (x shifted right by 33, without sign) modulo j". */
    private static void drawsGoRound() {
        long[] seeds = {0, 1, -1, Long.MAX_VALUE, Long.MIN_VALUE, Long.MAX_VALUE - 1, 1L << 33, (1L << 33) - 1, -(1L << 33)};
        int below = 0;
        for (long seed : seeds) {
            java.math.BigInteger x = java.math.BigInteger.valueOf(seed);
            HubTree y = Checks.withTree("d;d;d");
            HubTree z = Checks.withTree("d;d;d");
            z.years(40, seed);
            for (int i = 0; i < 40; i++) {
                x = next(x);
                int lot = bigDraw(x, 8);
                below += x.testBit(63) ? 1 : 0;
                if (lot <= 2) {
                    x = next(x);
                    int d = bigDraw(x, 3);
                    x = next(x);
                    int hub = bigDraw(x, 4);
                    x = next(x);
                    y.plug(d, hub == 3 ? 8 : hub, bigDraw(x, 4));
                } else {
                    x = next(x);
                    int d = bigDraw(x, lot >= 4 && lot <= 6 ? 9 : 3);
                    int done = lot == 3 ? y.unplug(d) : lot <= 6 ? y.tick(d + 1) : y.supply(d);
                    Checks.holds("an answer", done >= NONE);
                }
            }
            Probes.same("YEARS of " + seed, Probes.read(1, y), Probes.read(1, z));
            Probes.same("the LOG of " + seed, Probes.read(Probes.OF_LOG, y), Probes.read(Probes.OF_LOG, z));
        }
        Checks.holds("some x were below 0", below > 0);
    }

    private static java.math.BigInteger next(java.math.BigInteger x) {
        java.math.BigInteger round = java.math.BigInteger.ONE.shiftLeft(64);
        return x.multiply(new java.math.BigInteger("6364136223846793005"))
            .add(new java.math.BigInteger("1442695040888963407")).mod(round);
    }

    private static int bigDraw(java.math.BigInteger x, int j) {
        return x.shiftRight(33).mod(java.math.BigInteger.valueOf(j)).intValue();
    }

    private static int draw(long[] x, int j) {
        x[0] = x[0] * 6364136223846793005L + 1442695040888963407L;
        return (int) ((x[0] >>> 33) % j);
    }

    private static void oneYear(HubTree y, long[] x, int devices) {
        int lot = draw(x, 8);
        if (lot <= 2) {
            int d = draw(x, devices);
            int hub = draw(x, devices + 1);
            y.plug(d, hub == devices ? 8 : hub, draw(x, 4));
        } else if (lot == 3) {
            y.unplug(draw(x, devices));
        } else if (lot <= 6) {
            y.tick(draw(x, 9) + 1);
        } else {
            y.supply(draw(x, devices));
        }
    }

    /** "Each is an ACT; what can't be is left (no STATUS)"; each can be UNDONE. */
    private static void yearsByHand() {
        HubTree x = Checks.withTree("dn4o1;dn4o1;d;d;d;d;d;d");
        int time = x.years(40, 2024);
        Checks.due("TIME", time, x.all(0));
        int acts = x.count(4);
        Checks.holds("some were left, some done", acts > 5 && acts < 40);
        Checks.due("each in the LOG", acts, x.count(3));
        stands("no STATUS", x, 0, 0, 0, 0);
        for (int i = acts - 1; i >= 0; i--) {
            Checks.due("UNDONE", i, x.undo());
        }
        Checks.due("all AWAY", 255, x.all(1));
        Checks.due("TIME 0", 0, x.all(0));
        Checks.due("the same again", time, x.years(40, 2024));
    }

    /** "An IMAGE (instead of the one ahead): TIME"; "BACK: it is so again (no ACT can be UNDONE then)". */
    private static void images() {
        List<Long> devices = Probes.read(0, imaged());
        HubTree y = imaged();
        y.years(40, 6);
        y.unplug(0);
        y.tick(60);
        Checks.due("back: TIME", 33, y.back());
        Probes.same("back: DEVICES", devices, Probes.read(0, y));
        HubTree z = imaged();
        z.error(5, 3);
        z.supply(5);
        z.unplug(4);
        z.back();
        Probes.same("back: what is told of all but what can be UNDONE", withoutUndoing(imaged()), withoutUndoing(z));
        Probes.same("back: HUBS", Probes.read(2, imaged()), Probes.read(2, z));
        HubTree w = imaged();
        w.tick(1);
        w.back();
        Probes.same("back: the LOG", Probes.read(Probes.OF_LOG, imaged()), Probes.read(Probes.OF_LOG, w));
        Checks.due("back: none can be UNDONE", 0, w.count(4));
        Checks.due("back: undo", NONE, w.undo());
        HubTree v = imaged();
        v.again(4);
        int turn = Checks.device(v, 4, 2);
        v.back();
        Checks.due("back: the next TURN as it was", turn, v.again(4));
        Checks.due("back: an ACT behind it can be UNDONE", 0, v.undo());
        Checks.due("back, as often as one likes", 33, v.back());
        v.tick(7);
        Checks.due("instead of the one ahead", 40, v.image());
        v.tick(7);
        Checks.due("back to this", 40, v.back());
        Checks.due("undo does not reach behind it", NONE, v.undo());
        Checks.due("TIME", 40, v.all(0));
    }

    private static HubTree imaged() {
        HubTree x = midst();
        x.image();
        return x;
    }

    private static List<Long> withoutUndoing(HubTree x) {
        List<Long> seen = Probes.read(1, x);
        seen.remove(seen.size() - 1);
        return seen;
    }

    /** "An IMAGE keeps all that ACTS change": the LOG, too, however many ACTS come behind it. */
    private static void imagesOfTheLog() {
        for (int acts : new int[] {0, 1, 60, 70}) {
            for (int more : new int[] {1, 40, 41, 60, 99, 100, 101}) {
                HubTree x = Checks.withTree("d");
                for (int i = 0; i < acts; i++) {
                    x.tick(i % 60 + 1);
                }
                x.image();
                for (int i = 0; i < more; i++) {
                    x.error(0, 1 + i % 2);
                }
                x.back();
                Checks.due("back: how long the LOG is", Math.min(acts, 60), x.count(3));
                for (int i = 0; i < Math.min(acts, 60); i++) {
                    Checks.due("back: sort", 2, x.log(i, 0));
                    Checks.due("back: number", (acts - 1 - i) % 60 + 1, x.log(i, 1));
                }
                Checks.due("back: none behind", HIDDEN, x.log(Math.min(acts, 60), 0));
            }
        }
    }

    /** "NONE: no IMAGE of this TREE." */
    private static void imagesOfThisTree() {
        HubTree x = new HubTree();
        Checks.due("image without a TREE", NONE, x.image());
        Checks.due("back without a TREE", NONE, x.back());
        Checks.feed(x, "d");
        x.text(0);
        Checks.due("back without an IMAGE", NONE, x.back());
        Checks.due("refused, nothing is UNDONE", NONE, x.undo());
        Checks.due("an IMAGE at once", 0, x.image());
        x.tick(5);
        Checks.due("back", 0, x.back());
        Checks.due("the IMAGE stays", 0, x.back());
        Checks.feed(x, "d");
        x.text(0);
        Checks.due("the same text is another TREE", NONE, x.back());
        x.tick(3);
        Checks.due("ACTS stay where BACK is refused", 1, x.count(4));
        Checks.due("an IMAGE of this", 3, x.image());
        Checks.feed(x, "x");
        x.text(0);
        Checks.due("a TEXT with a FAULT takes no IMAGE", 3, x.back());
    }

    /** "(all AWAY; all that was of another one is gone but SCRIPTS, STATUS)". */
    private static void anotherTree() {
        Probes.Maker fresh = () -> {
            HubTree x = new HubTree();
            Checks.script(x, "u2");
            Checks.feed(x, "sd1r1;de2;d");
            x.text(0);
            return x;
        };
        Probes.Maker behind = () -> {
            HubTree x = midst();
            x.end(0);
            Checks.feed(x, "sd1r1;de2;d");
            x.text(0);
            return x;
        };
        for (int probe = 0; probe < Probes.PROBES; probe++) {
            Probes.same("another TREE, probe " + probe, Probes.read(probe, fresh.make()), Probes.read(probe, behind.make()));
        }
    }

    /** "An object is used for at most 512 calls": the last of these is answered like the first. */
    private static void upTo512Calls() {
        HubTree x = new HubTree();
        x.feed('d' << 24, 0, 0, 0, 0);
        x.text(0);
        for (int call = 3; call <= 511; call++) {
            Checks.due("call " + call, 1, call % 2 == 1 ? x.plug(0, 8, 0) : x.unplug(0));
        }
        Checks.due("call 512", 40, x.count(4));
        HubTree y = new HubTree();
        y.feed('d' << 24, 0, 0, 0, 0);
        y.text(0);
        for (int call = 3; call <= 509; call++) {
            y.tick(1);
        }
        Checks.due("call 510", 507, y.all(0));
        Checks.due("call 511", 39, y.undo());
        Checks.due("call 512", 60, y.count(3));
        HubTree z = new HubTree();
        for (int call = 1; call <= 511; call++) {
            z.tick(1);
        }
        Checks.due("call 512", 511, z.status(0));
    }
}
