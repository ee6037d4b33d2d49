/** Promises 14 to 24, 36 and 37: ACTS, STATUS, UNDOING, the LOG, YEARS, IMAGES. */
public final class ActsTest {
    private static final int NONE = HubTree.NONE;
    private static final int HIDDEN = HubTree.HIDDEN;

    private ActsTest() {}

    public static void main(String[] args) {
        plugs();
        unplugs();
        ticks();
        bitesThatFail();
        judgements();
        supplies();
        suppliesAndSleepers();
        errors();
        tries();
        sleeps();
        wakes();
        lostHubs();
        lostWhileBusy();
        years();
        statusCounts();
        undoes();
        logs();
        images();
        Checks.finish();
    }

    private static int what(HubTree x, int device) {
        return Checks.device(x, device, 0);
    }

    private static int why(HubTree x, int device) {
        return Checks.device(x, device, 8);
    }

    private static void stands(String when, HubTree x, int... want) {
        for (int what = 0; what < want.length; what++) {
            Checks.due(when + ": status " + what, want[what], x.status(what));
        }
    }

    private static void plugs() {
        HubTree x = Checks.withTree("sn2;dn2;dn2;dn2;dn2;d;d");
        Checks.due("plug: no such DEVICE", NONE, x.plug(6, 8, 0));
        Checks.due("plug: no such DEVICE below", NONE, x.plug(-1, 8, 0));
        Checks.due("plug: the ROOT itself", NONE, x.plug(8, 8, 0));
        Checks.due("plug: no such HUB", NONE, x.plug(0, 6, 0));
        Checks.due("plug: no such HUB 9", NONE, x.plug(0, 9, 0));
        Checks.due("plug: no such HUB below", NONE, x.plug(0, -1, 0));
        Checks.due("plug: one without PORTS is no HUB", NONE, x.plug(0, 4, 0));
        stands("no such", x, 7, 0, 0, 0);
        Checks.due("plug: no such PORT", NONE, x.plug(0, 8, 2));
        Checks.due("plug: no such PORT below", NONE, x.plug(0, 8, -1));
        Checks.due("plug: no such PORT of an AWAY HUB", NONE, x.plug(0, 1, 2));
        stands("no such PORT", x, 7, 3, 0, 0);
        Checks.due("plug: the HUB is AWAY", NONE, x.plug(0, 1, 1));
        Checks.due("plug: into itself", NONE, x.plug(0, 0, 1));
        stands("can't be", x, 7, 3, 2, 0);
        Checks.due("plug: DEPTH 1", 1, x.plug(0, 8, 0));
        Checks.due("plug: it is not AWAY", NONE, x.plug(0, 8, 1));
        Checks.due("plug: into itself, not AWAY", NONE, x.plug(0, 0, 1));
        Checks.due("plug: the PORT is not free", NONE, x.plug(1, 8, 0));
        stands("it is so", x, 7, 3, 5, 0);
        Checks.due("plug: DEPTH 2", 2, x.plug(1, 0, 1));
        Checks.due("plug: DEPTH 3", 3, x.plug(2, 1, 0));
        Checks.due("plug: DEPTH 4", 4, x.plug(3, 2, 0));
        Checks.due("plug: DEPTH 5", 5, x.plug(4, 3, 0));
        Checks.due("plug: SETTLING", 1, what(x, 4));
        Checks.due("plug: TIMER is DEBOUNCE", 3, Checks.device(x, 4, 1));
        stands("done ones are not counted", x, 7, 3, 5, 0);
    }

    private static void unplugs() {
        HubTree x = Checks.withTree("sd1r1y3;dn4o1;dn4o1;d;de2;d");
        Checks.due("unplug: no such DEVICE", NONE, x.unplug(5));
        Checks.due("unplug: no such DEVICE below", NONE, x.unplug(-1));
        Checks.due("unplug: AWAY", NONE, x.unplug(0));
        stands("unplug", x, 2, 0, 1, 0);
        x.plug(0, 8, 0);
        x.plug(1, 0, 0);
        x.plug(2, 1, 0);
        x.plug(4, 8, 1);
        x.tick(12);
        x.supply(1);
        x.sleep(2);
        Checks.due("unplug: a HUB between", 2, x.unplug(1));
        Checks.due("unplug: it and what is beneath are AWAY", 8 + 4 + 2, x.all(1));
        Checks.due("unplug: no ADDRESS", 0, Checks.device(x, 1, 7));
        Checks.due("unplug: runs at NONE", NONE, Checks.device(x, 1, 6));
        Checks.due("unplug: not ASLEEP", 0, x.all(11));
        Checks.due("unplug: SUPPLY as it was", 0, Checks.device(x, 1, 9));
        Checks.due("unplug: alone", 1, x.unplug(4));
        x.plug(3, 8, 3);
        x.tick(4);
        Checks.due("FAILS 1", 1, Checks.device(x, 3, 3));
        x.unplug(3);
        Checks.due("FAILS since it was PLUGGED", 1, Checks.device(x, 3, 3));
        x.plug(3, 8, 3);
        Checks.due("PLUGGED: FAILS 0", 0, Checks.device(x, 3, 3));
        x.unplug(3);
        x.plug(2, 0, 0);
        x.tick(1);
        Checks.due("in RESET", 2, x.all(6));
        Checks.due("unplug: one in RESET", 2, x.unplug(0));
        Checks.due("unplug: nobody in RESET", NONE, x.all(6));
    }

    private static void ticks() {
        HubTree x = Checks.withTree("sd2r3;d;dn1;d;d");
        Checks.due("tick: 0", NONE, x.tick(0));
        Checks.due("tick: 61", NONE, x.tick(61));
        Checks.due("tick: below", NONE, x.tick(Integer.MIN_VALUE));
        stands("tick", x, 0, 3, 0, 0);
        x.plug(2, 1, 0);
        x.plug(1, 8, 3);
        x.plug(2, 1, 0);
        x.plug(0, 8, 1);
        x.tick(1);
        x.plug(3, 8, 0);
        x.tick(1);
        Checks.due("TURNS rise by number in one TICK: 0 is first", 0, x.all(6));
        Checks.due("TURN of 1", 2, Checks.device(x, 1, 2));
        Checks.due("TURN of 2", 3, Checks.device(x, 2, 2));
        x.tick(1);
        Checks.due("TURN of 3", 4, Checks.device(x, 3, 2));
        Checks.due("RESET 3", 2, Checks.device(x, 0, 1));
        x.tick(2);
        Checks.due("FIRST", 4, what(x, 0));
        x.tick(1);
        Checks.due("SECOND", 5, what(x, 0));
        Checks.due("tick: one is CONFIGURED", 1, x.tick(1));
        Checks.due("the next is in RESET at once", 3, what(x, 1));
        Checks.due("tick: two", 2, x.tick(5));
        Checks.due("the least TURN first, now that its HUB is CONFIGURED", 2, x.all(6));
        Checks.due("tick: all", 4, x.tick(10));
        Checks.due("TIME", 22, x.all(0));
        for (int i = 0; i < 166; i++) {
            x.tick(60);
        }
        Checks.due("TIME 9982", 9982, x.all(0));
        Checks.due("tick: TIME would be 10,000", NONE, x.tick(18));
        stands("TIME", x, 0, 3, 1, 1);
        Checks.due("tick: TIME 9,999", 4, x.tick(17));
        Checks.due("tick: TIME is at its end", NONE, x.tick(1));
        Checks.due("tick: out of bounds is first", NONE, x.tick(61));
        stands("TIME at its end", x, 0, 4, 1, 2);
        Checks.due("years at the end of TIME", 9999, x.years(40, 7));
        stands("no STATUS by YEARS", x, 0, 4, 1, 2);
    }

    private static void bitesThatFail() {
        HubTree x = Checks.withTree("sd1r1y3;de1;de2;dn4e3;d");
        x.plug(0, 8, 0);
        x.tick(3);
        Checks.due("ERROR 1 FAILS at its FIRST: in RESET again at once", 3, what(x, 0));
        Checks.due("FAILS 1", 1, Checks.device(x, 0, 3));
        x.tick(2);
        Checks.due("FAILS 2", 2, Checks.device(x, 0, 3));
        x.tick(2);
        Checks.due("FAILS are TRIES: REFUSED", 7, what(x, 0));
        Checks.due("WHY: its bytes", 1, why(x, 0));
        Checks.due("FAILS 3", 3, Checks.device(x, 0, 3));
        x.plug(1, 8, 1);
        x.tick(3);
        Checks.due("ERROR 2 passes its FIRST", 5, what(x, 1));
        x.tick(1);
        Checks.due("ERROR 2 FAILS at its SECOND", 1, Checks.device(x, 1, 3));
        x.plug(2, 8, 2);
        x.tick(1);
        x.plug(3, 8, 3);
        x.tick(2);
        Checks.due("who FAILED waits behind who came: 2 is in RESET", 2, x.all(6));
        Checks.due("2 passes its FIRST", 5, what(tickOf(x, 2), 2));
        x.tick(1);
        Checks.due("2 FAILED: its PORTS are told as 7", 1, Checks.device(x, 2, 3));
        Checks.due("3 is in RESET", 3, x.all(6));
        x.error(2, 0);
        x.error(1, 0);
        x.tick(9);
        Checks.due("mended ones are CONFIGURED", 2 + 4 + 8, x.all(4));
        Checks.due("FAILS stay", 2, Checks.device(x, 1, 3));
        HubTree y = Checks.withTree("sd1r1y1;d");
        y.plug(0, 8, 0);
        y.tick(3);
        y.error(0, 1);
        y.tick(1);
        Checks.due("a LENGTH of 3 at its SECOND FAILS; one TRY", 1, why(y, 0));
    }

    private static HubTree tickOf(HubTree x, int n) {
        x.tick(n);
        return x;
    }

    private static void judgements() {
        HubTree x = Checks.withTree("sd1r1a4;dn1o1u9b0;dn1o1u9b0;dn1o1u9b0;dn1o1u9b0;db0o1u9");
        for (int d = 0; d < 5; d++) {
            x.plug(d, d == 0 ? 8 : d - 1, 0);
        }
        x.tick(30);
        Checks.due("DEPTH 5 is REFUSED, ahead of no ADDRESS", 4, why(x, 4));
        Checks.due("DEPTH 4 is not", 6, what(x, 3));
        HubTree y = Checks.withTree("sd1r1a1;db0;db99u9");
        y.plug(0, 8, 0);
        y.plug(1, 8, 1);
        y.tick(9);
        Checks.due("no ADDRESS ahead of power and time", 5, why(y, 1));
        HubTree z = Checks.withTree("sd1r1p3h60m40;du4b99;du3b31;du3b30;db7;db1;ds2b1");
        powerAndTime(z);
        HubTree w = Checks.withTree("sd1r1p6;dn4u2;dn4u2;du1;du1;du2o1;du1;du1");
        leftOfHubs(w);
    }

    private static void powerAndTime(HubTree z) {
        z.plug(0, 8, 0);
        z.tick(4);
        Checks.due("power ahead of time", 2, why(z, 0));
        z.plug(1, 8, 1);
        z.tick(4);
        Checks.due("HELP 62 of 60", 3, why(z, 1));
        z.plug(2, 8, 2);
        z.tick(4);
        Checks.due("HELP 60 of 60", 6, what(z, 2));
        Checks.due("BUS 34", 34, z.all(7));
        z.unplug(0);
        z.plug(3, 8, 0);
        z.tick(4);
        Checks.due("HELP 74 of 60", 3, why(z, 3));
        z.sleep(2);
        z.again(3);
        z.tick(3);
        Checks.due("the HELP of who is ASLEEP is free", 6, what(tickOf(z, 1), 3));
        z.unplug(1);
        z.plug(5, 8, 1);
        z.tick(4);
        Checks.due("at 2 there is no HELP, nor 4 besides", 12, z.all(7));
        Checks.due("can't wake: BUS 46 of 40, HELP 74", NONE, z.sleep(2));
    }

    private static void leftOfHubs(HubTree w) {
        w.plug(0, 8, 0);
        w.tick(4);
        w.plug(1, 0, 0);
        w.tick(4);
        Checks.due("2 UNITS, a PORT GIVES 1", 2, why(w, 1));
        w.unplug(1);
        w.plug(2, 0, 0);
        w.plug(3, 0, 1);
        w.plug(5, 0, 2);
        w.plug(6, 0, 3);
        w.tick(13);
        Checks.due("four times 1 of 4", 6, what(w, 6));
        Checks.due("nothing LEFT", 0, w.hub(0, 3));
        w.unplug(6);
        w.plug(4, 0, 3);
        w.tick(4);
        Checks.due("with a SUPPLY it TAKES nothing", 6, what(w, 4));
        Checks.due("1 LEFT", 1, w.hub(0, 3));
        Checks.due("its SUPPLY off: a PORT GIVES 1", 0, w.supply(4));
        Checks.due("REFUSED", 2, why(w, 4));
    }

    private static void supplies() {
        HubTree x = Checks.withTree("sd1r1p5;dn4o1u3;du1;du2;du1;dn2u1;du1;d;do1");
        Checks.due("supply: no such DEVICE", NONE, x.supply(8));
        Checks.due("supply: no such DEVICE below", NONE, x.supply(-1));
        Checks.due("supply: none of its OWN", NONE, x.supply(1));
        stands("supply", x, 2, 0, 1, 0);
        Checks.due("supply: AWAY, off", 0, x.supply(7));
        Checks.due("supply: AWAY, on", 1, x.supply(7));
        x.plug(0, 8, 0);
        x.plug(1, 0, 0);
        x.plug(2, 0, 1);
        x.plug(3, 0, 2);
        x.plug(4, 0, 3);
        x.plug(5, 4, 0);
        x.tick(19);
        Checks.due("all CONFIGURED", 63, x.all(4));
        Checks.due("LEFT of HUB 4", 3, x.hub(4, 3));
        // Off, HUB 0 has 2 for its four: 2 units are more than a PORT GIVES, then of 1, 3, 4 the last.
        Checks.due("supply: off", 0, x.supply(0));
        Checks.due("the greatest TAKES", 2, why(x, 2));
        Checks.due("of several the highest number", 2, why(x, 4));
        Checks.due("what is beneath it waits", 2, what(x, 5));
        Checks.due("its TURN", 7, Checks.device(x, 5, 2));
        Checks.due("the others stay", 1 + 2 + 8, x.all(4));
        Checks.due("nothing LEFT", 0, x.hub(0, 3));
        Checks.due("supply: on again", 1, x.supply(0));
        Checks.due("on changes nobody", 1 + 2 + 8, x.all(4));

        HubTree y = Checks.withTree("sd1r1p2;dn4o1u3;dn2o1;du1;d");
        y.plug(2, 8, 1);
        y.tick(4);
        y.plug(0, 8, 0);
        y.plug(1, 0, 0);
        y.tick(7);
        y.plug(3, 1, 0);
        y.tick(2);
        Checks.due("3 is at its FIRST", 4, what(y, 3));
        y.supply(0);
        Checks.due("3 UNITS, the ROOT's PORT GIVES 2", 2, why(y, 0));
        Checks.due("all beneath wait: 1", 4, Checks.device(y, 1, 2) - 1);
        Checks.due("all beneath wait, numbers rising: 3", 6, Checks.device(y, 3, 2));
        Checks.due("no ADDRESS any more", NONE, y.at(2));
        Checks.due("the other stays", 4, y.all(4));
    }

    private static void suppliesAndSleepers() {
        HubTree x = Checks.withTree("sd1r1;dn2o1u1;dn3o0u1;du1;du1;du1;do1u1;du1");
        x.plug(0, 8, 0);
        x.plug(1, 0, 0);
        x.plug(2, 1, 0);
        x.plug(3, 1, 1);
        x.plug(4, 1, 2);
        x.tick(16);
        Checks.due("five CONFIGURED", 31, x.all(4));
        Checks.due("HUB 1 has 1 LEFT", 1, x.hub(1, 3));
        x.supply(0);
        Checks.due("those right at HUB 0 stay", 31, x.all(4));
        Checks.due("LEFT of the HUB beneath is below 0", -3, x.hub(1, 3));
        x.unplug(4);
        x.plug(5, 1, 2);
        x.tick(4);
        Checks.due("0 is more than what is LEFT", 2, why(x, 5));
        x.sleep(2);
        Checks.due("ASLEEP it TAKES nothing", -1, x.hub(1, 3));
        Checks.due("it can't wake", NONE, x.sleep(2));
        Checks.due("who could wake", 0, x.all(12));

        HubTree y = Checks.withTree("sd1r1p5;dn2o1u3;du2o1;du1");
        y.plug(0, 8, 0);
        y.plug(1, 0, 0);
        y.plug(2, 0, 1);
        y.tick(10);
        y.supply(0);
        Checks.due("all stay", 7, y.all(4));
        y.sleep(1);
        y.supply(1);
        Checks.due("off while ASLEEP: it TAKES nothing", 7, y.all(4));
        Checks.due("it can't wake: 2 UNITS", NONE, y.sleep(1));
        Checks.due("its SUPPLY on again", 1, y.supply(1));
        Checks.due("it wakes", 0, y.sleep(1));
    }

    private static void errors() {
        HubTree x = Checks.withTree("d;de2");
        Checks.due("error: no such DEVICE", NONE, x.error(2, 0));
        Checks.due("error: no such DEVICE is first", NONE, x.error(-1, 9));
        Checks.due("error: out of bounds", NONE, x.error(0, 4));
        Checks.due("error: out of bounds below", NONE, x.error(0, -1));
        Checks.due("error: it is so", NONE, x.error(0, 0));
        stands("error", x, 2, 2, 1, 0);
        Checks.due("error: what it was", 2, x.error(1, 3));
        Checks.due("error: what it was then", 3, x.error(1, 0));
        Checks.due("error: set", 0, x.told(1, 5));
    }

    private static void tries() {
        HubTree x = Checks.withTree("sd1r1y1;de1;d");
        Checks.due("again: no such DEVICE", NONE, x.again(2));
        Checks.due("again: no such DEVICE below", NONE, x.again(-1));
        Checks.due("again: AWAY", NONE, x.again(0));
        x.plug(0, 8, 0);
        x.tick(2);
        Checks.due("again: at a bite", NONE, x.again(0));
        stands("again", x, 2, 0, 2, 0);
        x.tick(1);
        Checks.due("REFUSED", 1, why(x, 0));
        Checks.due("again: TURN", 2, x.again(0));
        Checks.due("again: WAITING", 2, what(x, 0));
        Checks.due("again: FAILS 0", 0, Checks.device(x, 0, 3));
        Checks.due("again: no longer WHY", 0, why(x, 0));
        Checks.due("again: WAITING already", NONE, x.again(0));
        x.error(0, 0);
        x.tick(4);
        Checks.due("again: CONFIGURED in the end", 6, what(x, 0));
        Checks.due("again: CONFIGURED", NONE, x.again(0));
    }

    private static void sleeps() {
        HubTree x = Checks.withTree("sd1r1;dn4o1;d;de2;d");
        Checks.due("sleep: no such DEVICE", NONE, x.sleep(4));
        Checks.due("sleep: no such DEVICE below", NONE, x.sleep(-1));
        Checks.due("sleep: the ROOT", NONE, x.sleep(8));
        Checks.due("sleep: AWAY", NONE, x.sleep(0));
        stands("sleep", x, 3, 0, 1, 0);
        x.plug(0, 8, 0);
        x.tick(4);
        x.plug(1, 0, 0);
        Checks.due("sleep: one SETTLING right at it is no hindrance", 1, x.sleep(0));
        x.tick(9);
        Checks.due("beneath one ASLEEP nobody is reset", 2, what(x, 1));
        Checks.due("wake", 0, x.sleep(0));
        for (int i = 0; i < 3; i++) {
            x.tick(1);
            Checks.due("sleep: in RESET or at a bite right at it", NONE, x.sleep(0));
        }
        x.tick(1);
        Checks.due("sleep: CONFIGURED right at it", NONE, x.sleep(0));
        Checks.due("sleep: that one", 1, x.sleep(1));
        Checks.due("sleep: now it can", 1, x.sleep(0));
        x.plug(2, 8, 1);
        x.tick(9);
        Checks.due("2 is REFUSED", 7, what(x, 2));
        Checks.due("sleep: REFUSED", NONE, x.sleep(2));
        Checks.due("wake: its HUB is ASLEEP", NONE, x.sleep(1));
        stands("sleep", x, 3, 0, 7, 0);
    }

    private static void wakes() {
        HubTree x = Checks.withTree("sd1r1p5m20h40;dn2u4b0;db10;db10;du1b0;du1b0");
        x.plug(1, 8, 1);
        x.tick(4);
        x.sleep(1);
        x.plug(2, 8, 2);
        x.tick(4);
        Checks.due("BUS 14", 14, x.all(7));
        Checks.due("wake: BUS 28 of 20", NONE, x.sleep(1));
        Checks.due("who could wake", 0, x.all(12));
        x.sleep(2);
        Checks.due("each alone", 6, x.all(12));
        Checks.due("wake: BUS 14", 0, x.sleep(1));
        Checks.due("the other can't now", 0, x.all(12));
        x.plug(0, 8, 0);
        x.tick(4);
        x.plug(3, 0, 0);
        x.tick(4);
        x.sleep(3);
        x.plug(4, 0, 1);
        x.tick(4);
        Checks.due("4 has the one UNIT LEFT", 6, what(x, 4));
        Checks.due("wake: nothing LEFT", NONE, x.sleep(3));
        x.sleep(4);
        Checks.due("wake: 1 LEFT", 0, x.sleep(3));
        HubTree y = Checks.withTree("sd1r1m99h10;db4;db2");
        y.plug(0, 8, 0);
        y.tick(4);
        y.sleep(0);
        y.plug(1, 8, 1);
        y.tick(4);
        Checks.due("wake: HELP 12 of 10", NONE, y.sleep(0));
        y.unplug(1);
        Checks.due("wake: HELP 8 of 10", 0, y.sleep(0));
    }

    private static void lostHubs() {
        HubTree x = Checks.withTree("sd1r1p1;dn2o1u2s2;d;dn2o1;ds0;d");
        x.plug(0, 8, 0);
        x.plug(2, 0, 0);
        x.plug(1, 2, 1);
        x.plug(3, 2, 0);
        x.tick(13);
        Checks.due("CONFIGURED", 15, x.all(4));
        x.plug(4, 0, 1);
        x.sleep(3);
        x.supply(0);
        Checks.due("a HUB is REFUSED: nobody CONFIGURED", 0, x.all(4));
        Checks.due("who SETTLES goes on", 16, x.all(2));
        Checks.due("nobody ASLEEP", 0, x.all(11));
        Checks.due("TURNS by number: 1", 5, Checks.device(x, 1, 2));
        Checks.due("TURNS by number: 2", 6, Checks.device(x, 2, 2));
        Checks.due("TURNS by number: 3", 7, Checks.device(x, 3, 2));
        x.tick(20);
        Checks.due("they wait for their HUB", 2 + 4 + 8 + 16, x.all(3));
        x.supply(0);
        x.again(0);
        x.tick(4);
        Checks.due("HUB 0 runs again, 2 is next, as 1 waits for it", 2, x.all(6));
        x.tick(20);
        Checks.due("all", 31, x.all(4));
    }

    /** A HUB is lost while one beneath it is in RESET, at its FIRST, at its SECOND. */
    private static void lostWhileBusy() {
        for (int ticks = 1; ticks <= 3; ticks++) {
            HubTree x = Checks.withTree("sd1r1p1;dn1o1u2;d");
            x.plug(0, 8, 0);
            x.tick(4);
            x.plug(1, 0, 0);
            x.tick(ticks);
            Checks.due("in RESET or at a bite", 2 + ticks, what(x, 1));
            x.supply(0);
            Checks.due("WAITING", 2, what(x, 1));
            Checks.due("with the next TURN", 3, Checks.device(x, 1, 2));
            Checks.due("no TIMER", 0, Checks.device(x, 1, 1));
            Checks.due("nobody in RESET or at a bite", NONE, x.all(6));
        }
    }

    private static void years() {
        HubTree x = Checks.withTree("dn2o1;d;dn3o1");
        Checks.due("years: 0", NONE, x.years(0, 1));
        Checks.due("years: 41", NONE, x.years(41, 1));
        Checks.due("years: below", NONE, x.years(-1, 1));
        stands("years", x, 0, 0, 0, 0);
        HubTree y = Checks.withTree("dn2o1;d;dn3o1");
        for (long seed : new long[] {0, 1, -1, 123456789L, Long.MIN_VALUE, Long.MAX_VALUE, 42}) {
            int acts = byHand(y, 40, seed);
            Checks.due("years: TIME", y.all(0), x.years(40, seed));
            for (int d = 0; d < 3; d++) {
                for (int what = 0; what <= 12; what++) {
                    Checks.due("years: device", y.device(d, what), x.device(d, what));
                }
            }
            Checks.due("years: ACTS in the LOG", y.count(3), x.count(3));
            Checks.holds("years: some ACTS", acts > 0);
        }
        for (int i = 0; i < x.count(3); i++) {
            for (int what = 0; what < 3; what++) {
                Checks.due("years: log", y.log(i, what), x.log(i, what));
            }
        }
        stands("years: no STATUS", x, 0, 0, 0, 0);
    }

    /** Draws as the document says, and does each ACT by hand: how many were done. */
    private static int byHand(HubTree y, int n, long seed) {
        long[] x = {seed};
        int done = 0;
        for (int i = 0; i < n; i++) {
            int lot = draw(x, 8);
            int answer;
            if (lot < 3) {
                int device = draw(x, 3);
                int hub = draw(x, 4);
                answer = y.plug(device, hub == 3 ? 8 : hub, draw(x, 4));
            } else if (lot == 3) {
                answer = y.unplug(draw(x, 3));
            } else if (lot < 7) {
                answer = y.tick(draw(x, 9) + 1);
            } else {
                answer = y.supply(draw(x, 3));
            }
            done += answer == NONE ? 0 : 1;
        }
        return done;
    }

    private static int draw(long[] x, int j) {
        x[0] = x[0] * 6364136223846793005L + 1442695040888963407L;
        return (int) ((x[0] >>> 33) % j);
    }

    private static void statusCounts() {
        HubTree x = new HubTree();
        x.tick(99);
        x.error(0, 9);
        stands("no TREE is first", x, 2, 0, 0, 0);
        Checks.due("status: no such what", NONE, x.status(4));
        Checks.due("status: no such what below", NONE, x.status(-1));
        HubTree y = Checks.withTree("d");
        y.plug(0, 8, 0);
        y.plug(0, 8, 0);
        y.undo();
        y.image();
        y.plug(0, 8, 9);
        y.back();
        stands("STATUS is not UNDONE", y, 0, 1, 1, 0);
        Checks.script(y, "z0;t1");
        y.perform(0);
        y.run(0, 0);
        y.years(0, 0);
        y.place(9);
        y.log(9, 9);
        stands("no STATUS by others", y, 0, 1, 1, 0);
        Checks.due("what is refused is in no LOG", 0, y.count(3));
    }

    private static void undoes() {
        HubTree x = Checks.withTree("sd1r1;dn2o1u1;d;de1");
        Checks.due("undo: none", NONE, x.undo());
        x.plug(0, 8, 0);
        x.plug(1, 0, 0);
        x.tick(7);
        x.plug(2, 0, 1);
        x.error(2, 2);
        x.sleep(1);
        x.supply(0);
        x.tick(9);
        x.again(2);
        x.unplug(0);
        Checks.due("ten ACTS", 10, x.count(4));
        Checks.due("undo: UNPLUGGED", 9, x.undo());
        Checks.due("all three are there", 0, x.all(1));
        Checks.due("2 is WAITING", 2, what(x, 2));
        Checks.due("its TURN", 5, Checks.device(x, 2, 2));
        Checks.due("undo: TRIED", 8, x.undo());
        Checks.due("2 is REFUSED", 1, why(x, 2));
        Checks.due("TRIED anew: the same TURN", 5, x.again(2));
        x.undo();
        Checks.due("undo: TICKS", 7, x.undo());
        Checks.due("TIME", 7, x.all(0));
        Checks.due("undo: SUPPLY", 6, x.undo());
        Checks.due("it is on", 1, Checks.device(x, 0, 9));
        Checks.due("undo: ASLEEP", 5, x.undo());
        Checks.due("nobody ASLEEP", 0, x.all(11));
        Checks.due("undo: ERROR", 4, x.undo());
        Checks.due("ERROR as it was", 1, x.told(2, 5));
        Checks.due("the LOG has four", 4, x.count(3));
        Checks.due("undo: PLUGGED", 3, x.undo());
        Checks.due("2 is AWAY", 0, what(x, 2));
        Checks.due("undo", 2, x.undo());
        Checks.due("undo", 1, x.undo());
        Checks.due("undo", 0, x.undo());
        Checks.due("undo: none left", NONE, x.undo());
        Checks.due("no LOG left", 0, x.count(3));
        Checks.due("all AWAY", 7, x.all(1));

        HubTree y = Checks.withTree("d");
        for (int i = 0; i < 45; i++) {
            y.tick(1);
        }
        Checks.due("the latest 40", 40, y.count(4));
        for (int i = 39; i >= 0; i--) {
            Checks.due("undo", i, y.undo());
        }
        Checks.due("undo: no more than 40", NONE, y.undo());
        Checks.due("five stay", 5, y.all(0));
    }

    private static void logs() {
        HubTree x = Checks.withTree("sd1r1y1;do1;de1");
        x.plug(1, 8, 0);
        x.plug(0, 8, 1);
        x.tick(3);
        x.tick(6);
        x.supply(0);
        x.error(1, 0);
        x.again(1);
        x.sleep(0);
        x.unplug(1);
        x.sleep(0);
        int[][] want = {
            {6, 0, 1}, {1, 1, 1}, {6, 0, 1}, {5, 1, 1}, {4, 1, 1}, {3, 0, 1}, {2, 6, 1}, {2, 3, 0}, {0, 0, 0},
            {0, 1, 0},
        };
        for (int i = 0; i < want.length; i++) {
            for (int what = 0; what < 3; what++) {
                Checks.due("log " + i + " " + what, want[i][what], x.log(i, what));
            }
        }
        Checks.due("log: none so far back", HIDDEN, x.log(10, 0));
        Checks.due("log: below", HIDDEN, x.log(-1, 0));
        Checks.due("log: no such what", HIDDEN, x.log(0, 3));
        Checks.due("log: no such what below", HIDDEN, x.log(0, -1));

        HubTree y = Checks.withTree("d");
        for (int i = 0; i < 140; i++) {
            y.tick(i % 60 + 1);
            Checks.due("the LOG grows to 60", Math.min(i + 1, 60), y.count(3));
        }
        Checks.due("the latest", 139 % 60 + 1, y.log(0, 1));
        Checks.due("the last of 60", 80 % 60 + 1, y.log(59, 1));
        Checks.due("none behind it", HIDDEN, y.log(60, 1));
        for (int i = 0; i < 40; i++) {
            y.undo();
        }
        Checks.due("UNDONE, the LOG is as it was: 60", 60, y.count(3));
        Checks.due("as it was, the latest", 99 % 60 + 1, y.log(0, 1));
        Checks.due("as it was, the last", 40 % 60 + 1, y.log(59, 1));
        y.plug(0, 8, 0);
        Checks.due("a new ACT", 0, y.log(0, 0));
        Checks.due("behind those", 99 % 60 + 1, y.log(1, 1));
    }

    private static void images() {
        HubTree x = Checks.withTree("sd1r1;dn2o1;d;d");
        Checks.due("back: no IMAGE", NONE, x.back());
        x.plug(0, 8, 0);
        x.tick(5);
        Checks.due("image: TIME", 5, x.image());
        Checks.due("an IMAGE is no ACT", 2, x.count(4));
        x.plug(1, 0, 0);
        x.error(2, 3);
        x.supply(0);
        x.tick(9);
        Checks.due("back: TIME", 5, x.back());
        Checks.due("back: 1 is AWAY", 0, what(x, 1));
        Checks.due("back: ERROR", 0, x.told(2, 5));
        Checks.due("back: SUPPLY", 1, Checks.device(x, 0, 9));
        Checks.due("back: the LOG", 2, x.count(3));
        Checks.due("back: the latest of the LOG", 2, x.log(0, 0));
        Checks.due("back: nothing can be UNDONE", 0, x.count(4));
        Checks.due("back: undo", NONE, x.undo());
        x.plug(1, 0, 0);
        x.tick(1);
        Checks.due("back: TURNS as they were", 2, x.all(6) + 1);
        Checks.due("back: new ACTS can be UNDONE", 1, x.undo());
        Checks.due("back, once more", 5, x.back());
        x.tick(2);
        Checks.due("an IMAGE instead of the one ahead", 7, x.image());
        x.tick(2);
        Checks.due("back to that", 7, x.back());
        x.tick(1);
        x.undo();
        Checks.due("UNDONE up to it", NONE, x.undo());
        Checks.due("TIME of the IMAGE", 7, x.all(0));
    }
}
