import java.util.ArrayList;
import java.util.List;

/**
 * "What is refused answers as told and changes nothing but STATUS": each call that each promise refuses,
 * with numbers at both sides of what it takes, in several states; its answer, what STATUS counts, and
 * that all else, seen by every probe, is as it was.
 */
public final class RefusedCallsTest {
    private static final int NONE = HubTree.NONE;
    private static final int HIDDEN = HubTree.HIDDEN;
    private static final int THROWN = -99;
    private static final int UNCOUNTED = -1;
    private static final int[] NEVER = {Integer.MIN_VALUE, -1000000, -2, -1};

    private final String state;
    private final Probes.Maker maker;
    private final List<List<Long>> untouched = new ArrayList<>();
    private final List<Long> statusAhead;

    private RefusedCallsTest(String state, Probes.Maker maker) {
        this.state = state;
        this.maker = maker;
        for (int probe = 0; probe < Probes.PROBES; probe++) {
            untouched.add(Probes.read(probe, maker.make()));
        }
        statusAhead = Probes.status(maker.make());
    }

    public static void main(String[] args) {
        withoutTree();
        inTheMidst();
        atTheEnds();
        Checks.finish();
    }

    /** One call that is refused: its answer, and which STATUS counts it (UNCOUNTED: none). */
    private void refused(String call, long answer, int status, Probes.Call made) {
        String told = state + ": " + call;
        Checks.due(told, answer, made.on(maker.make()));
        HubTree x = maker.make();
        made.on(x);
        List<Long> want = new ArrayList<>(statusAhead);
        if (status != UNCOUNTED) {
            want.set(status, want.get(status) + 1);
        }
        Probes.same(told + ": STATUS", want, Probes.status(x));
        for (int probe = 0; probe < Probes.PROBES; probe++) {
            HubTree y = maker.make();
            made.on(y);
            Probes.same(told + ": seen by probe " + probe, untouched.get(probe), Probes.read(probe, y));
        }
    }

    private void asked(String call, long answer, Probes.Call made) {
        refused(call, answer, UNCOUNTED, made);
    }

    // Promises 14 to 21 and all others, where there is no TREE.

    private static HubTree empty() {
        HubTree x = new HubTree();
        Checks.script(x, "p080;t60");
        Checks.feed(x, "d;x");
        return x;
    }

    private static void withoutTree() {
        RefusedCallsTest t = new RefusedCallsTest("no TREE", RefusedCallsTest::empty);
        for (int n : new int[] {Integer.MIN_VALUE, -1, 0, 1, 7, 8, 60, 61, Integer.MAX_VALUE}) {
            t.actsWithoutTree(n);
            t.asked("rule " + n, NONE, x -> x.rule(n));
            t.asked("told " + n, NONE, x -> x.told(n, 0));
            t.asked("device " + n, THROWN, x -> Checks.device(x, n, 0));
            t.asked("port " + n, NONE, x -> x.port(n, 0));
            t.asked("hub " + n, HIDDEN, x -> x.hub(n, 0));
            t.asked("octet " + n, NONE, x -> x.octet(n, 0));
            t.asked("at " + n, NONE, x -> x.at(n));
            t.asked("helper " + n, NONE, x -> x.helper(n));
            t.asked("years " + n, NONE, x -> x.years(n, 1));
            t.asked("log " + n, HIDDEN, x -> x.log(n, 0));
            t.asked("when " + n, NONE, x -> x.when(n));
            t.asked("ahead " + n, NONE, x -> x.ahead(n, 0));
            t.asked("place " + n, NONE, x -> x.place(n));
            t.asked("order " + n, NONE, x -> x.order(n));
            t.asked("lost " + n, NONE, x -> x.lost(n));
            t.asked("shares " + n, NONE, x -> x.shares(n, 0));
            t.asked("run " + n, HIDDEN, x -> x.run(n, 0));
            t.asked("perform " + n, NONE, x -> x.perform(n));
            t.asked("all " + n, HIDDEN, x -> x.all(n));
        }
        t.asked("undo", NONE, HubTree::undo);
        t.asked("last", NONE, HubTree::last);
        t.asked("image", NONE, HubTree::image);
        t.asked("back", NONE, HubTree::back);
        t.asked("text 0", NONE, x -> x.text(0));
        t.asked("text 1", NONE, x -> x.text(1));
    }

    private void actsWithoutTree(int n) {
        refused("plug " + n, NONE, 0, x -> x.plug(n, 8, 0));
        refused("plug 0 " + n, NONE, 0, x -> x.plug(0, n, 0));
        refused("plug 0 8 " + n, NONE, 0, x -> x.plug(0, 8, n));
        refused("unplug " + n, NONE, 0, x -> x.unplug(n));
        refused("tick " + n, NONE, 0, x -> x.tick(n));
        refused("supply " + n, NONE, 0, x -> x.supply(n));
        refused("error " + n, NONE, 0, x -> x.error(n, 0));
        refused("error 0 " + n, NONE, 0, x -> x.error(0, n));
        refused("again " + n, NONE, 0, x -> x.again(n));
        refused("sleep " + n, NONE, 0, x -> x.sleep(n));
    }

    // In the midst: of everything there is some.

    /**
     * DEVICE 0 a HUB that is CONFIGURED, 1 a HUB beneath it, CONFIGURED, 2 CONFIGURED and ASLEEP, 3 in RESET,
     * 4 WAITING, 5 SETTLING, 6 REFUSED (a HUB), 7 AWAY (a HUB).
     */
    private static HubTree busy() {
        HubTree x = Checks.withTree("sd2r3y1n4;dn4o1s2b0;dn2u1b6;do1s0b3;d;d;d;dn1u9o1e1;dn2o1");
        Checks.script(x, "p780;t9;o7");
        Checks.script(x, "t0");
        Checks.script(x, "u0;u1");
        x.plug(6, 8, 3);
        x.tick(30);
        x.plug(0, 8, 0);
        x.plug(1, 0, 0);
        x.plug(2, 8, 1);
        x.tick(30);
        x.sleep(2);
        x.image();
        x.plug(3, 0, 1);
        x.plug(4, 0, 2);
        x.tick(3);
        x.plug(5, 0, 3);
        x.plug(5, 0, 3);
        x.tick(99);
        x.tick(1);
        Checks.feed(x, "sn2;dn2;d b7;");
        return x;
    }

    private static void inTheMidst() {
        HubTree x = busy();
        int[] whats = {6, 6, 6, 3, 2, 1, 7, 0};
        for (int d = 0; d < 8; d++) {
            Checks.due("in the midst: what " + d + " is", whats[d], Checks.device(x, d, 0));
        }
        Checks.due("in the midst: ASLEEP", 4, x.all(11));
        RefusedCallsTest t = new RefusedCallsTest("in the midst", RefusedCallsTest::busy);
        t.plugs();
        t.actsOfOne();
        t.ticksAndErrors();
        t.tellsOfNoSuch();
        t.foreseenOfNoSuch();
        t.textsRefused();
    }

    /** Promise 14: no such DEVICE, HUB (0), no such PORT (1), not AWAY, HUB AWAY, itself, not free (2). */
    private void plugs() {
        for (int n : new int[] {Integer.MIN_VALUE, -1, 8, 9, Integer.MAX_VALUE}) {
            refused("plug of no such DEVICE " + n, NONE, 0, x -> x.plug(n, 0, 1));
            refused("plug of no such DEVICE, no such PORT " + n, NONE, 0, x -> x.plug(n, 8, 9));
        }
        for (int n : new int[] {Integer.MIN_VALUE, -1, 2, 3, 5, 9, Integer.MAX_VALUE}) {
            refused("plug into no HUB " + n, NONE, 0, x -> x.plug(7, n, 0));
            refused("plug into no HUB, no such PORT " + n, NONE, 0, x -> x.plug(7, n, 9));
            refused("plug of one not AWAY into no HUB " + n, NONE, 0, x -> x.plug(0, n, 0));
        }
        for (int n : new int[] {Integer.MIN_VALUE, -1, 4, 5, Integer.MAX_VALUE}) {
            refused("plug into no PORT of the ROOT " + n, NONE, 1, x -> x.plug(7, 8, n));
            refused("plug of one not AWAY into no PORT " + n, NONE, 1, x -> x.plug(0, 8, n));
            refused("plug into no PORT of a HUB of four " + n, NONE, 1, x -> x.plug(7, 0, n));
        }
        refused("plug into no PORT of a HUB of two", NONE, 1, x -> x.plug(7, 1, 2));
        refused("plug into no PORT of one", NONE, 1, x -> x.plug(7, 6, 1));
        refused("plug into no PORT of itself, AWAY", NONE, 1, x -> x.plug(7, 7, 2));
        refused("plug of one not AWAY", NONE, 2, x -> x.plug(3, 8, 2));
        refused("plug of one not AWAY where it is", NONE, 2, x -> x.plug(3, 0, 1));
        refused("plug of one REFUSED", NONE, 2, x -> x.plug(6, 8, 2));
        refused("plug of one SETTLING", NONE, 2, x -> x.plug(5, 8, 2));
        refused("plug into a HUB that is AWAY", NONE, 2, x -> x.plug(3, 7, 0));
        refused("plug into itself, AWAY", NONE, 2, x -> x.plug(7, 7, 0));
        refused("plug into itself", NONE, 2, x -> x.plug(1, 1, 0));
        refused("plug into what is beneath it", NONE, 2, x -> x.plug(0, 1, 0));
        refused("plug into a PORT of the ROOT that is not free", NONE, 2, x -> x.plug(7, 8, 0));
        refused("plug into the last PORT, not free", NONE, 2, x -> x.plug(7, 8, 3));
        refused("plug into a PORT of a HUB that is not free", NONE, 2, x -> x.plug(7, 0, 3));
    }

    /** Promises 15, 17, 19 and 20: no such DEVICE (0); AWAY, none of its OWN, not REFUSED, can't (2). */
    private void actsOfOne() {
        for (int n : new int[] {Integer.MIN_VALUE, -1, 8, 9, Integer.MAX_VALUE}) {
            refused("unplug " + n, NONE, 0, x -> x.unplug(n));
            refused("supply " + n, NONE, 0, x -> x.supply(n));
            refused("again " + n, NONE, 0, x -> x.again(n));
            refused("sleep " + n, NONE, 0, x -> x.sleep(n));
        }
        refused("unplug of one AWAY", NONE, 2, x -> x.unplug(7));
        for (int d : new int[] {1, 3, 4, 5}) {
            refused("supply of one without " + d, NONE, 2, x -> x.supply(d));
        }
        for (int d : new int[] {0, 1, 2, 3, 4, 5, 7}) {
            refused("again of one not REFUSED " + d, NONE, 2, x -> x.again(d));
        }
        for (int d : new int[] {3, 4, 5, 6, 7}) {
            refused("sleep of one not CONFIGURED " + d, NONE, 2, x -> x.sleep(d));
        }
        refused("sleep of one above one in RESET and one CONFIGURED", NONE, 2, x -> x.sleep(0));
    }

    /** Promises 16 and 18: not 1 .. 60 (1); no such DEVICE (0), out of bounds (1), it is so (2). */
    private void ticksAndErrors() {
        for (int n : new int[] {Integer.MIN_VALUE, -60, -1, 0, 61, 62, 10000, Integer.MAX_VALUE}) {
            refused("tick " + n, NONE, 1, x -> x.tick(n));
        }
        for (int n : new int[] {Integer.MIN_VALUE, -1, 8, 9, Integer.MAX_VALUE}) {
            refused("error of no such DEVICE " + n, NONE, 0, x -> x.error(n, 1));
            refused("error of no such DEVICE, out of bounds " + n, NONE, 0, x -> x.error(n, 4));
        }
        for (int n : new int[] {Integer.MIN_VALUE, -1, 4, 5, Integer.MAX_VALUE}) {
            refused("error " + n, NONE, 1, x -> x.error(0, n));
        }
        refused("error 0 where it is so", NONE, 2, x -> x.error(0, 0));
        refused("error 1 where it is so", NONE, 2, x -> x.error(6, 1));
        for (int n : new int[] {Integer.MIN_VALUE, -1, 0, 41, 42, Integer.MAX_VALUE}) {
            asked("years " + n, NONE, x -> x.years(n, 1));
        }
    }

    /** Promises 6 to 13, 22, 24, 32, 35 and 38: no such ones. */
    private void tellsOfNoSuch() {
        for (int n : NEVER) {
            tellsOfNoSuch(n, n, n, n);
        }
        tellsOfNoSuch(8, 9, 10, 13);
        tellsOfNoSuch(9, 10, 11, 14);
        tellsOfNoSuch(1 << 28, 1 << 29, 1 << 30, 1 << 28);
        tellsOfNoSuch(Integer.MAX_VALUE, Integer.MAX_VALUE, Integer.MAX_VALUE, Integer.MAX_VALUE);
        asked("told 6", NONE, x -> x.told(0, 6));
        asked("hub 6", HIDDEN, x -> x.hub(8, 6));
        asked("hub of no HUB", HIDDEN, x -> x.hub(2, 0));
        asked("port of no HUB", NONE, x -> x.port(2, 0));
        asked("port 4 of the ROOT", NONE, x -> x.port(8, 4));
        asked("port 2 of a HUB of two", NONE, x -> x.port(1, 2));
        asked("port of a HUB that is AWAY", NONE, x -> x.port(7, 0));
        asked("octet 8 of one without PORTS", NONE, x -> x.octet(2, 8));
        asked("octet 12 of one with four", NONE, x -> x.octet(0, 12));
        asked("at 0", NONE, x -> x.at(0));
        asked("at 4, which nobody has", NONE, x -> x.at(4));
        asked("helper of one at 2", NONE, x -> x.helper(0));
        asked("helper of one in RESET", NONE, x -> x.helper(3));
        asked("helper of one AWAY", NONE, x -> x.helper(7));
        asked("status 4", NONE, x -> x.status(4));
        asked("log 3", HIDDEN, x -> x.log(0, 3));
        asked("log as far as it is long", HIDDEN, x -> x.log(x.count(3), 0));
        asked("count 5", HIDDEN, x -> x.count(5));
        asked("step 3", HIDDEN, x -> x.step(0, 3, 0));
        asked("step 4", HIDDEN, x -> x.step(0, 0, 4));
    }

    /** A DEVICE, a HUB, a number and a what that are no such ones. */
    private void tellsOfNoSuch(int device, int hub, int number, int what) {
        asked("rule " + what, NONE, x -> x.rule(what));
        asked("told of " + device, NONE, x -> x.told(device, 0));
        asked("told " + what, NONE, x -> x.told(0, what));
        asked("device of " + device, THROWN, x -> Checks.device(x, device, 0));
        asked("device " + what, THROWN, x -> Checks.device(x, 0, what));
        asked("port of " + hub, NONE, x -> x.port(hub, 0));
        asked("port " + number, NONE, x -> x.port(8, number));
        asked("hub of " + hub, HIDDEN, x -> x.hub(hub, 0));
        asked("hub " + what, HIDDEN, x -> x.hub(8, what));
        asked("octet of " + device, NONE, x -> x.octet(device, 0));
        asked("octet " + what, NONE, x -> x.octet(0, what));
        asked("at " + number, NONE, x -> x.at(number));
        asked("helper of " + device, NONE, x -> x.helper(device));
        asked("status " + what, NONE, x -> x.status(what));
        asked("log " + what, HIDDEN, x -> x.log(0, what));
        asked("log far " + what, HIDDEN, x -> x.log(what < 0 ? what : Math.max(what, 61), 0));
        asked("step of " + device, HIDDEN, x -> x.step(device, 0, 0));
        asked("step far " + what, HIDDEN, x -> x.step(0, what, 0));
        asked("step what " + what, HIDDEN, x -> x.step(0, 0, what));
        asked("all " + what, HIDDEN, x -> x.all(what));
        asked("count " + what, HIDDEN, x -> x.count(what));
    }

    /** Promises 25 to 31, 33 and 34: no such ones, out of bounds. */
    private void foreseenOfNoSuch() {
        for (int n : new int[] {Integer.MIN_VALUE, -1, 8, 9, Integer.MAX_VALUE}) {
            asked("when " + n, NONE, x -> x.when(n));
            asked("place " + n, NONE, x -> x.place(n));
            asked("order " + n, NONE, x -> x.order(n));
            asked("lost " + n, NONE, x -> x.lost(n));
            asked("shares of " + n, NONE, x -> x.shares(n, 1));
            asked("run of " + n, HIDDEN, x -> x.run(n, 0));
            asked("run " + n, HIDDEN, x -> x.run(0, n));
            asked("perform " + n, NONE, x -> x.perform(n));
            asked("ahead " + n, NONE, x -> x.ahead(0, n));
        }
        for (int n : new int[] {Integer.MIN_VALUE, -1, 201, 202, Integer.MAX_VALUE}) {
            asked("ahead " + n, NONE, x -> x.ahead(n, 0));
        }
        for (int n : new int[] {Integer.MIN_VALUE, -1, 1000, 1001, Integer.MAX_VALUE}) {
            asked("shares " + n, NONE, x -> x.shares(0, n));
        }
        asked("ahead what 2", NONE, x -> x.ahead(0, 2));
        asked("run what 2", HIDDEN, x -> x.run(0, 2));
        asked("run of a SCRIPT that is not there", HIDDEN, x -> x.run(3, 0));
        asked("perform of a SCRIPT that is not there", NONE, x -> x.perform(3));
        asked("perform of none that can be", 0, x -> x.perform(1));
        asked("when AWAY", NONE, x -> x.when(7));
        asked("when REFUSED", NONE, x -> x.when(6));
        for (int d = 0; d < 7; d++) {
            int device = d;
            asked("place of one not AWAY", NONE, x -> x.place(device));
        }
        asked("lost without SUPPLY", NONE, x -> x.lost(1));
        asked("lost without SUPPLY, no HUB", NONE, x -> x.lost(3));
        for (int d = 3; d < 8; d++) {
            int device = d;
            asked("shares of one not CONFIGURED", NONE, x -> x.shares(device, 1));
        }
    }

    /** Promises 2 to 5: end's n, no such sort, a FAULT. */
    private void textsRefused() {
        for (int n : new int[] {Integer.MIN_VALUE, -1, 14, 15, 241, Integer.MAX_VALUE}) {
            asked("end " + n, 0, x -> x.end(n) ? 1 : 0);
        }
        for (int n : new int[] {Integer.MIN_VALUE, -2, -1, 2, 3, Integer.MAX_VALUE}) {
            asked("fault " + n, -2, x -> x.fault(n));
            asked("text " + n, NONE, x -> x.text(n));
        }
        asked("fault of a TREE", 13, x -> x.fault(0));
        asked("fault of a SCRIPT", 0, x -> x.fault(1));
        asked("text of a TREE with a FAULT", NONE, x -> x.text(0));
        asked("text of a SCRIPT with a FAULT", NONE, x -> x.text(1));
    }

    // At the ends: TIME 9,999, a full LOG, 40 to be UNDONE, four SCRIPTS, a full TAPE, all PORTS taken.

    private static HubTree full() {
        HubTree x = Checks.withTree("sn1d1r1a1;dn1o1b9;dn1u0;d;do1");
        Checks.script(x, "t60" + ";t60".repeat(15));
        Checks.script(x, "t1;u0");
        Checks.script(x, "z0;t1;z0");
        Checks.script(x, "u9");
        x.plug(0, 8, 0);
        x.plug(1, 0, 0);
        for (int i = 0; i < 10; i++) {
            x.perform(0);
        }
        x.image();
        for (int i = 0; i < 6; i++) {
            x.tick(60);
        }
        x.supply(3);
        x.tick(39);
        Checks.feed(x, "u1" + " ".repeat(238));
        return x;
    }

    private static void atTheEnds() {
        HubTree y = full();
        Checks.due("at the ends: TIME", 9999, y.all(0));
        Checks.due("at the ends: the LOG", 60, y.count(3));
        Checks.due("at the ends: to be UNDONE", 40, y.count(4));
        Checks.due("at the ends: SCRIPTS", 4, y.count(1));
        Checks.due("at the ends: the TAPE", 240, y.count(2));
        Checks.due("at the ends: no ADDRESS", 5, Checks.device(y, 1, 8));
        RefusedCallsTest t = new RefusedCallsTest("at the ends", RefusedCallsTest::full);
        t.feedsRefused();
        t.refused("tick 1", NONE, 3, x -> x.tick(1));
        t.refused("tick 60", NONE, 3, x -> x.tick(60));
        t.refused("tick 0, at the end of TIME", NONE, 1, x -> x.tick(0));
        t.refused("tick 61, at the end of TIME", NONE, 1, x -> x.tick(61));
        t.refused("plug, no PORT free", NONE, 2, x -> x.plug(2, 8, 0));
        t.refused("plug, no such PORT", NONE, 1, x -> x.plug(2, 8, 1));
        t.asked("text of a fifth SCRIPT", NONE, x -> x.text(1));
        t.asked("perform, no TIME", 0, x -> x.perform(1));
        t.asked("run, no TIME", 0, x -> x.run(1, 0));
        t.asked("run, no TIME behind one STEP", 1, x -> x.run(2, 0));
        t.asked("ahead 0", 1, x -> x.ahead(0, 0));
        t.asked("ahead 1", NONE, x -> x.ahead(1, 0));
        t.asked("when it is", 0, x -> x.when(0));
        t.asked("when not", NONE, x -> x.when(1));
        t.asked("place", NONE, x -> x.place(2));
        t.asked("order", NONE, x -> x.order(0));
        t.asked("last", 0, HubTree::last);
        t.asked("lost, SUPPLY not on", NONE, x -> x.lost(3));
        t.asked("log 60", HIDDEN, x -> x.log(60, 0));
        t.asked("fault", NONE, x -> x.fault(1));
    }

    /** Promise 2: more than 240, by a byte at each of the twenty places. */
    private void feedsRefused() {
        for (int i = 0; i < 20; i++) {
            int one = 'x' << 24 - i % 4 * 8;
            int at = i / 4;
            asked("feed at " + i, NONE, x -> x.feed(
                at == 0 ? one : 0, at == 1 ? one : 0, at == 2 ? one : 0, at == 3 ? one : 0, at == 4 ? one : 0));
        }
        asked("feed twenty", NONE, x -> x.feed(-1, -1, -1, -1, -1));
        asked("feed nothing", 240, x -> x.feed(0, 0, 0, 0, 0));
        asked("end 241", 0, x -> x.end(241) ? 1 : 0);
        asked("end 240", 1, x -> x.end(240) ? 1 : 0);
    }
}
