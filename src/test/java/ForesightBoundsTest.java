/**
 * Part 3 of the Terms, promises 25 to 31, 33 and 34: each bound of what is looked at apart and of SCRIPTS
 * that are run and done. Each method quotes the sentence that it holds.
 */
public final class ForesightBoundsTest {
    private static final int NONE = HubTree.NONE;
    private static final int HIDDEN = HubTree.HIDDEN;

    private ForesightBoundsTest() {}

    public static void main(String[] args) {
        beneath();
        whenItIs();
        whenNever();
        whenAtTheEndOfTime();
        whenFarAhead();
        aheadUpTo200();
        aheadAtTheEndOfTime();
        lastUpTo200();
        lastAtTheEndOfTime();
        placeSoonest();
        placeNone();
        placeAtTheEndOfTime();
        orderOfAll();
        orderAtTheEndOfTime();
        lostByAHub();
        sharesUpTo999();
        runOfEachStep();
        runUpToSixteen();
        runAtTheEndOfTime();
        performsUpToThere();
        apartNothingChanges();
        Checks.finish();
    }

    private static int what(HubTree x, int d) {
        return Checks.device(x, d, 0);
    }

    /** "BENEATH of a HUB: all that hang on it (bits; right at it or farther)." */
    private static void beneath() {
        HubTree x = Checks.withTree("dn2;dn2;dn2;dn2;d;d;d");
        int[][] plugs = {{0, 8, 0}, {1, 0, 0}, {2, 1, 0}, {3, 2, 0}, {4, 3, 0}, {5, 0, 1}, {6, 8, 1}};
        Checks.due("nothing", 0, x.hub(8, 0));
        for (int[] p : plugs) {
            x.plug(p[0], p[1], p[2]);
        }
        int[] beneath = {2 + 4 + 8 + 16 + 32, 4 + 8 + 16, 8 + 16, 16};
        int[] right = {2 + 32, 4, 8, 16};
        for (int hub = 0; hub < 4; hub++) {
            Checks.due("BENEATH " + hub, beneath[hub], x.hub(hub, 0));
            Checks.due("right at " + hub, right[hub], x.hub(hub, 1));
        }
        Checks.due("BENEATH the ROOT", 127, x.hub(8, 0));
        Checks.due("right at the ROOT", 1 + 64, x.hub(8, 1));
        Checks.due("no HUB", HIDDEN, x.hub(4, 0));
        x.unplug(2);
        Checks.due("nothing BENEATH one AWAY", 0, x.hub(2, 0));
        Checks.due("BENEATH 1", 0, x.hub(1, 0));
        Checks.due("BENEATH 0", 2 + 32, x.hub(0, 0));
    }

    /** "WHEN .. one is CONFIGURED first (0: it is)": each TICK of its way. */
    private static void whenItIs() {
        for (int debounce = 1; debounce <= 9; debounce += 4) {
            for (int reset = 1; reset <= 9; reset += 4) {
                HubTree x = Checks.withTree("sd" + debounce + "r" + reset + ";d");
                x.plug(0, 8, 0);
                for (int left = debounce + reset + 2; left > 0; left--) {
                    Checks.due("so many TICKS", left, x.when(0));
                    Checks.due("not CONFIGURED", 0, x.all(4));
                    x.tick(1);
                }
                Checks.due("it is", 0, x.when(0));
                Checks.due("CONFIGURED", 1, x.all(4));
                x.sleep(0);
                Checks.due("ASLEEP it is, too", 0, x.when(0));
            }
        }
    }

    /** "NONE: not within 200, .. no such DEVICE, it is AWAY." */
    private static void whenNever() {
        HubTree x = Checks.withTree("sd1r1y2;de1;dn2e2;d;d;du6;dn1o1");
        for (int d = -1; d <= 8; d++) {
            Checks.due("AWAY, or no such DEVICE", NONE, x.when(d));
        }
        x.plug(0, 8, 0);
        x.plug(1, 8, 1);
        x.plug(2, 1, 0);
        x.plug(4, 8, 2);
        Checks.due("it will FAIL", NONE, x.when(0));
        Checks.due("it will FAIL at its SECOND", NONE, x.when(1));
        Checks.due("its HUB will be REFUSED", NONE, x.when(2));
        Checks.due("it will have no power", NONE, x.when(4));
        x.tick(60);
        Checks.due("REFUSED", NONE, x.when(0));
        x.again(0);
        Checks.due("TRIED again in vain", NONE, x.when(0));
        x.error(0, 0);
        Checks.due("TRIED again, mended", 4, x.when(0));
        x.error(1, 0);
        x.again(1);
        Checks.due("its HUB mended, too", 10, x.when(2));
        x.tick(60);
        x.plug(5, 8, 3);
        x.tick(4);
        x.sleep(5);
        x.plug(3, 5, 0);
        Checks.due("its HUB is ASLEEP", NONE, x.when(3));
        x.sleep(5);
        Checks.due("its HUB is awake", 4, x.when(3));
    }

    /** "TIME at its end ahead of that": CONFIGURED at 9,999, or just not. */
    private static void whenAtTheEndOfTime() {
        for (int left = 0; left <= 6; left++) {
            HubTree x = Checks.atTime("sd1r1;d", 9999 - left);
            x.plug(0, 8, 0);
            Checks.due("4 TICKS, " + left + " left", left >= 4 ? 4 : NONE, x.when(0));
            if (left >= 4) {
                Checks.due("it comes", 1, x.tick(4));
            }
        }
        HubTree y = Checks.atTime("sd1r1;d", 9995);
        y.plug(0, 8, 0);
        y.tick(4);
        Checks.due("it is, at the end of TIME", 0, y.when(0));
    }

    /** "within 200 TICKS": the longest way there is stays below; who never comes is looked for as far. */
    private static void whenFarAhead() {
        HubTree x = Checks.withTree("sd9r9y5n4;dn4o1;dn4;dn1;d;de2;de2;de2;de2");
        int[][] plugs = {{4, 8, 0}, {5, 8, 1}, {6, 8, 2}, {0, 8, 3}, {1, 0, 0}, {2, 0, 1}, {7, 0, 2}, {3, 2, 0}};
        for (int[] p : plugs) {
            x.plug(p[0], p[1], p[2]);
        }
        int ticks = x.when(3);
        Checks.holds("far", ticks > 50 && ticks <= 200);
        Checks.due("not one TICK ahead", 0, x.ahead(ticks - 1, 0) >> 3 & 1);
        Checks.due("then", 1, x.ahead(ticks, 0) >> 3 & 1);
    }

    /** "AHEAD n TICKS (0 .. 200): who is CONFIGURED, REFUSED then." */
    private static void aheadUpTo200() {
        HubTree x = Checks.withTree("sd1r1y1;d;de1;d;du9");
        for (int d = 0; d < 4; d++) {
            x.plug(d, 8, d);
        }
        // 0 at 4, 1 FAILS its FIRST at 6, 2 at 9, 3 has no power at 12.
        for (int n = 0; n <= 200; n++) {
            int running = (n >= 4 ? 1 : 0) + (n >= 9 ? 4 : 0);
            int refused = (n >= 6 ? 2 : 0) + (n >= 12 ? 8 : 0);
            Checks.due("CONFIGURED ahead " + n, running, x.ahead(n, 0));
            Checks.due("REFUSED ahead " + n, refused, x.ahead(n, 1));
        }
        for (int n : new int[] {Integer.MIN_VALUE, -1, 201, 202, Integer.MAX_VALUE}) {
            Checks.due("CONFIGURED ahead " + n, NONE, x.ahead(n, 0));
            Checks.due("REFUSED ahead " + n, NONE, x.ahead(n, 1));
        }
        for (int what : new int[] {Integer.MIN_VALUE, -1, 2, 3, Integer.MAX_VALUE}) {
            Checks.due("ahead what " + what, NONE, x.ahead(0, what));
        }
    }

    /** "NONE: .. TIME would be above 9,999". */
    private static void aheadAtTheEndOfTime() {
        for (int left : new int[] {0, 1, 2, 4, 5, 199, 200, 201}) {
            HubTree x = Checks.atTime("sd1r1;d", 9999 - left);
            x.plug(0, 8, 0);
            for (int n : new int[] {0, 1, 2, 3, 4, 5, 6, 198, 199, 200, 201}) {
                int want = n > left || n > 200 ? NONE : n >= 4 ? 1 : 0;
                Checks.due("ahead " + n + ", " + left + " left", want, x.ahead(n, 0));
            }
        }
    }

    /** "LAST: behind how many TICKS (200 at most) nothing more would change but TIME." */
    private static void lastUpTo200() {
        HubTree x = Checks.withTree("sd1r1y1;dn1;d;de1");
        Checks.due("all AWAY", 0, x.last());
        x.plug(0, 8, 0);
        x.plug(1, 0, 0);
        for (int left = 7; left > 0; left--) {
            Checks.due("so many TICKS", left, x.last());
            x.tick(1);
        }
        Checks.due("nothing more", 0, x.last());
        x.plug(2, 8, 1);
        Checks.due("up to where it is REFUSED", 3, x.last());
        x.unplug(2);
        Checks.due("AWAY, nothing more", 0, x.last());
        // Each TRY at a SECOND takes 11 TICKS behind DEBOUNCE: four with five TRIES end at 9 and 220.
        HubTree y = Checks.withTree("sd9r9y5;de2;de2;de2;de2");
        for (int d = 0; d < 4; d++) {
            y.plug(d, 8, d);
        }
        for (int time = 0; time <= 229; time++) {
            int left = 229 - time;
            Checks.due("LAST, " + left + " left", left > 200 ? NONE : left, y.last());
            y.tick(1);
        }
        Checks.due("all REFUSED", 15, y.all(5));
    }

    /** "not within 200 (TIME at its end ahead of that, too)". */
    private static void lastAtTheEndOfTime() {
        for (int left = 0; left <= 6; left++) {
            HubTree x = Checks.atTime("sd1r1;d", 9999 - left);
            Checks.due("nothing changes, " + left + " left", 0, x.last());
            x.plug(0, 8, 0);
            Checks.due("4 TICKS, " + left + " left", left >= 4 ? 4 : NONE, x.last());
        }
        for (int left : new int[] {199, 200, 201}) {
            HubTree y = Checks.atTime("sd9r9y5;de2;de2;de2;de2", 9999 - left - 29);
            for (int d = 0; d < 4; d++) {
                y.plug(d, 8, d);
            }
            y.tick(29);
            Checks.due("200 TICKS, " + left + " left", left >= 200 ? 200 : NONE, y.last());
        }
    }

    /** "the PORT (10 times the HUB and the PORT) by which .. CONFIGURED soonest (.. of several the least)". */
    private static void placeSoonest() {
        HubTree x = Checks.withTree("sd1r1;dn4;dn4o1;d;d;d;d;d;d");
        Checks.due("the ROOT's first", 80, x.place(7));
        x.plug(2, 8, 0);
        Checks.due("the ROOT's first that is free", 81, x.place(7));
        x.plug(3, 8, 2);
        x.plug(4, 8, 1);
        Checks.due("the ROOT's last", 83, x.place(7));
        x.unplug(2);
        x.unplug(3);
        x.plug(1, 8, 0);
        x.tick(30);
        Checks.due("of a HUB and the ROOT as soon: the least", 10, x.place(7));
        x.plug(0, 8, 2);
        x.tick(30);
        Checks.due("of two HUBS as soon: the least", 0, x.place(7));
        Checks.due("its PORTS GIVE 1, it TAKES 1", 4, whenThere(x, 7, 0, 0));
        x.sleep(0);
        Checks.due("not beneath one ASLEEP", 10, x.place(7));
        x.plug(2, 1, 0);
        x.plug(3, 1, 1);
        x.plug(5, 1, 3);
        x.tick(30);
        Checks.due("the one that is free", 12, x.place(7));
        x.plug(6, 1, 2);
        x.tick(30);
        Checks.due("none free there", 83, x.place(7));
        HubTree y = Checks.withTree("sd1r1n2;dn2;d;d");
        y.plug(0, 8, 1);
        y.tick(1);
        Checks.due("a HUB in RESET: as soon as it itself is there", 0, y.place(1));
        y.sleep(0);
        HubTree z = Checks.withTree("sd3r1n2;d;dn1o1;d");
        z.plug(1, 8, 0);
        Checks.due("a HUB that SETTLES: DEVICE 0 has the TURN ahead at the ROOT", 81, z.place(0));
        Checks.due("DEVICE 2 has it behind: as soon in both, the least", 10, z.place(2));
    }

    private static int whenThere(HubTree x, int device, int hub, int port) {
        x.plug(device, hub, port);
        int ticks = x.when(device);
        x.undo();
        return ticks;
    }

    /** "NONE: none, no such DEVICE, it is not AWAY." */
    private static void placeNone() {
        HubTree x = Checks.withTree("sd1r1n1p2;dn1;d;du3;de3;d");
        for (int d : new int[] {Integer.MIN_VALUE, -1, 5, 8, Integer.MAX_VALUE}) {
            Checks.due("no such DEVICE " + d, NONE, x.place(d));
        }
        Checks.due("it has no power anywhere", NONE, x.place(2));
        Checks.due("it would FAIL", NONE, x.place(3));
        Checks.due("it would run", 80, x.place(1));
        x.plug(0, 8, 0);
        Checks.due("not AWAY", NONE, x.place(0));
        Checks.due("beneath the one", 0, x.place(1));
        x.plug(1, 0, 0);
        Checks.due("no PORT is free", NONE, x.place(4));
        x.unplug(1);
        x.tick(9);
        Checks.due("not AWAY, CONFIGURED", NONE, x.place(0));
        x.sleep(0);
        Checks.due("the HUB is ASLEEP", NONE, x.place(1));
        x.sleep(0);
        Checks.due("the HUB is awake", 0, x.place(1));
    }

    /** "CONFIGURED soonest (within 200 TICKS ..)": and as long as there is TIME. */
    private static void placeAtTheEndOfTime() {
        for (int left = 0; left <= 6; left++) {
            HubTree x = Checks.atTime("sd1r1;d", 9999 - left);
            Checks.due("4 TICKS, " + left + " left", left >= 4 ? 80 : NONE, x.place(0));
        }
    }

    /** "ORDER: those that are not CONFIGURED in the order in which they would be"; "NONE: no such one". */
    private static void orderOfAll() {
        HubTree x = Checks.withTree("sd1r1y1m200n4;dn4;d;d;d;de1;d;d;d");
        Checks.due("nobody", NONE, x.order(0));
        x.plug(7, 8, 0);
        x.tick(1);
        x.plug(0, 8, 1);
        x.plug(6, 0, 0);
        x.plug(5, 8, 2);
        x.plug(4, 8, 3);
        x.plug(3, 0, 1);
        x.plug(2, 0, 2);
        x.plug(1, 0, 3);
        int[] order = {7, 0, 1, 2, 3, 5, 6};
        for (int i = 0; i < 7; i++) {
            Checks.due("the " + i + "th", order[i], x.order(i));
        }
        for (int i : new int[] {Integer.MIN_VALUE, -1, 7, 8, 9, Integer.MAX_VALUE}) {
            Checks.due("order " + i, NONE, x.order(i));
        }
        x.tick(3);
        Checks.due("7 is CONFIGURED", 128, x.all(4));
        Checks.due("the first of those that are not", 0, x.order(0));
        Checks.due("no more than six", NONE, x.order(6));
        x.tick(60);
        Checks.due("all came", 255 - 16, x.all(4));
        Checks.due("nobody more", NONE, x.order(0));
    }

    /** ORDER at the end of TIME: who comes at 9,999 is there, who comes behind it is not. */
    private static void orderAtTheEndOfTime() {
        for (int left = 0; left <= 8; left++) {
            HubTree x = Checks.atTime("sd1r1;d;d", 9999 - left);
            x.plug(0, 8, 0);
            x.plug(1, 8, 1);
            Checks.due("4 TICKS, " + left + " left", left >= 4 ? 0 : NONE, x.order(0));
            Checks.due("7 TICKS, " + left + " left", left >= 7 ? 1 : NONE, x.order(1));
        }
    }

    /** "LOST by a HUB's SUPPLY: who would no longer be CONFIGURED at once, were it off now." */
    private static void lostByAHub() {
        HubTree x = Checks.withTree("sd1r1p3;dn4o1u2b0;du1;dn1u1b0;d;do1u9;do1");
        for (int d : new int[] {Integer.MIN_VALUE, -1, 6, 8, Integer.MAX_VALUE}) {
            Checks.due("no such DEVICE " + d, NONE, x.lost(d));
        }
        Checks.due("none of its OWN", NONE, x.lost(1));
        Checks.due("AWAY: nobody", 0, x.lost(0));
        x.plug(0, 8, 0);
        x.plug(1, 0, 0);
        x.plug(2, 0, 1);
        x.plug(3, 2, 0);
        x.plug(4, 0, 2);
        x.tick(60);
        Checks.due("all run", 31, x.all(4));
        // 3 less 2: 1 is LEFT for 1 and 2, which TAKE 1 each: 2 goes, and 3 beneath it.
        Checks.due("LOST", 4 + 8, x.lost(0));
        Checks.due("itself", 16, x.lost(4));
        x.supply(0);
        Checks.due("so it is", 1 + 2 + 16, x.all(4));
        Checks.due("its SUPPLY is not on", NONE, x.lost(0));
        HubTree y = Checks.withTree("sd1r1p1;dn1o1u2;d");
        y.plug(0, 8, 0);
        y.plug(1, 0, 0);
        y.tick(60);
        Checks.due("it and all beneath it", 3, y.lost(0));
    }

    /** "SHARES of c (0 .. 999) by BYTES: .. c times its by that of all, cut (0: none has any)." */
    private static void sharesUpTo999() {
        HubTree x = Checks.withTree("sd1r1m200h99;ds2b99;ds2b1;ds2b0;ds2");
        for (int d = 0; d < 3; d++) {
            x.plug(d, 8, d);
        }
        Checks.due("not CONFIGURED", NONE, x.shares(0, 0));
        x.tick(30);
        for (int c : new int[] {0, 1, 2, 99, 100, 101, 500, 998, 999}) {
            Checks.due("99 of 100: " + c, c * 99 / 100, x.shares(0, c));
            Checks.due("1 of 100: " + c, c / 100, x.shares(1, c));
            Checks.due("0 of 100: " + c, 0, x.shares(2, c));
        }
        for (int c : new int[] {Integer.MIN_VALUE, -1, 1000, 1001, Integer.MAX_VALUE}) {
            Checks.due("shares " + c, NONE, x.shares(0, c));
        }
        for (int d : new int[] {Integer.MIN_VALUE, -1, 3, 4, 8, Integer.MAX_VALUE}) {
            Checks.due("shares of " + d, NONE, x.shares(d, 1));
        }
        x.unplug(1);
        Checks.due("all of it", 999, x.shares(0, 999));
        x.unplug(0);
        Checks.due("none has any", 0, x.shares(2, 999));
        Checks.due("none has any, out of bounds", NONE, x.shares(2, 1000));
    }

    /** "RUN of a SCRIPT: behind how many STEPS the first is that can't be": each kind of STEP. */
    private static void runOfEachStep() {
        String[] cannot = {
            "p280", "p090", "p010", "p084", "p030", "p800", "p900", "u1", "u9", "t0", "t61", "t99", "o1", "o9", "e00", "e04",
            "e90", "z1", "z9",
        };
        String[] can = {"p180", "p183", "u0", "t1", "t60", "o0", "o2", "e01", "e03", "e13"};
        for (String step : cannot) {
            HubTree x = Checks.withTree("sd1r1;dn2o1;d;dn1o1");
            Checks.due("TAKEN", 0, Checks.script(x, "p082;p283;" + step + ";t9"));
            Checks.due(step + " can't be", 2, x.run(0, 0));
            Checks.due(step + " can't be: CONFIGURED ahead of it", 0, x.run(0, 1));
            Checks.due(step + " is not done", 2, x.perform(0));
            Checks.due("two ACTS", 2, x.count(4));
        }
        for (String step : can) {
            HubTree x = Checks.withTree("sd1r1;dn2o1;d;dn1o1");
            Checks.due("TAKEN", 0, Checks.script(x, "p082;" + step));
            Checks.due(step + " can be", NONE, x.run(0, 0));
            Checks.due(step + " is done", 2, x.perform(0));
        }
        HubTree y = Checks.withTree("sd1r1;d");
        Checks.script(y, "p080;t4;z0;z0;u0;u0");
        Checks.due("the last can't be", 5, y.run(0, 0));
        Checks.due("CONFIGURED behind those", 0, y.run(0, 1));
        Checks.script(y, "u0;p080");
        Checks.due("the first can't be", 0, y.run(1, 0));
        Checks.script(y, "p080;t4;p080");
        Checks.due("CONFIGURED behind two", 1, y.run(2, 1));
    }

    /** RUN and DO of SCRIPTS with 1 and with 16 STEPS; the four of them. */
    private static void runUpToSixteen() {
        HubTree x = Checks.withTree("d");
        Checks.due("run of no SCRIPT", HIDDEN, x.run(0, 0));
        Checks.script(x, "t1");
        Checks.script(x, "t1" + ";t2".repeat(15));
        Checks.script(x, "t1" + ";t2".repeat(14) + ";u0");
        Checks.due("run of the fourth, not there yet", HIDDEN, x.run(3, 0));
        Checks.due("perform of the fourth, not there yet", NONE, x.perform(3));
        Checks.script(x, "u0");
        Checks.due("one STEP", NONE, x.run(0, 0));
        Checks.due("16 STEPS", NONE, x.run(1, 0));
        Checks.due("the 16th can't be", 15, x.run(2, 0));
        Checks.due("none can be", 0, x.run(3, 0));
        Checks.due("one is done", 1, x.perform(0));
        Checks.due("16 are done", 16, x.perform(1));
        Checks.due("TIME", 1 + 31, x.all(0));
        Checks.due("15 are done", 15, x.perform(2));
        Checks.due("none is done", 0, x.perform(3));
        Checks.due("each was an ACT", 32, x.count(4));
        for (int script : new int[] {Integer.MIN_VALUE, -1, 4, Integer.MAX_VALUE}) {
            Checks.due("run of " + script, HIDDEN, x.run(script, 0));
            Checks.due("perform of " + script, NONE, x.perform(script));
        }
        for (int what : new int[] {Integer.MIN_VALUE, -1, 2, Integer.MAX_VALUE}) {
            Checks.due("run what " + what, HIDDEN, x.run(0, what));
        }
    }

    /** A STEP of TICKS by which TIME would be above 9,999 can't be. */
    private static void runAtTheEndOfTime() {
        for (int left = 0; left <= 3; left++) {
            HubTree x = Checks.atTime("d", 9999 - left);
            Checks.script(x, "t1;t1;t1");
            Checks.due("run, " + left + " left", left == 3 ? NONE : left, x.run(1, 0));
            Checks.due("perform, " + left + " left", left, x.perform(1));
            Checks.due("TIME", 9999, x.all(0));
            Checks.due("no STATUS", 0, x.status(3));
        }
    }

    /** "DO: its STEPS as ACTS, up to there (no STATUS)": as by hand, each to be UNDONE. */
    private static void performsUpToThere() {
        HubTree x = Checks.withTree("sd1r1;dn2o1b0;d;d");
        Checks.script(x, "p080;p100;t7;z1;o0;e23;u1;p281;u1;t9");
        HubTree y = Checks.withTree("sd1r1;dn2o1b0;d;d");
        y.plug(0, 8, 0);
        y.plug(1, 0, 0);
        y.tick(7);
        y.sleep(1);
        y.supply(0);
        y.error(2, 3);
        y.unplug(1);
        y.plug(2, 8, 1);
        Checks.due("eight can be", 8, x.run(0, 0));
        Checks.due("eight are done", 8, x.perform(0));
        Probes.same("as by hand", Probes.read(0, y), Probes.read(0, x));
        Probes.same("the LOG as by hand", Probes.read(Probes.OF_LOG, y), Probes.read(Probes.OF_LOG, x));
        Probes.same("no STATUS", Probes.status(y), Probes.status(x));
        for (int left = 7; left >= 0; left--) {
            Checks.due("UNDONE", left, x.undo());
        }
        Checks.due("all AWAY", 7, x.all(1));
        Checks.due("none more", NONE, x.undo());
    }

    /** "(Apart, from as it is now.)": what is looked at apart changes nothing. */
    private static void apartNothingChanges() {
        Probes.Maker maker = () -> {
            HubTree x = Checks.withTree("sd2r2y1p4;dn4o1u3b0;d;de1;d;dn1o1");
            Checks.script(x, "p380;t60;o0;z3;u0");
            x.plug(0, 8, 0);
            x.plug(1, 0, 0);
            x.tick(9);
            x.image();
            x.plug(2, 8, 1);
            x.tick(3);
            Checks.feed(x, "d;d");
            return x;
        };
        Probes.Call[] looks = {
            x -> x.when(1), x -> x.when(2), x -> x.ahead(200, 0), x -> x.ahead(200, 1), HubTree::last, x -> x.place(3),
            x -> x.order(0), x -> x.order(7), x -> x.lost(0), x -> x.shares(0, 999), x -> x.run(0, 0), x -> x.run(0, 1),
            x -> x.all(12), x -> x.hub(8, 0), x -> x.fault(0), x -> x.fault(1),
        };
        for (int i = 0; i < looks.length; i++) {
            for (int probe = 0; probe < Probes.PROBES; probe++) {
                HubTree x = maker.make();
                looks[i].on(x);
                Probes.same("look " + i + ", probe " + probe, Probes.read(probe, maker.make()), Probes.read(probe, x));
            }
            HubTree y = maker.make();
            looks[i].on(y);
            Probes.same("look " + i + ": STATUS", Probes.status(maker.make()), Probes.status(y));
        }
        Checks.due("one is CONFIGURED", 6, what(maker.make(), 1));
        Checks.due("another is on its way", 3, what(maker.make(), 2));
    }
}
