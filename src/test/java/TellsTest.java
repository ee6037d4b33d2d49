/** Promises 6 to 13, 35 and 38: what is told of the TREE, DEVICES, HUBS, ADDRESSES and of all. */
public final class TellsTest {
    private static final int NONE = HubTree.NONE;
    private static final int HIDDEN = HubTree.HIDDEN;

    private TellsTest() {}

    public static void main(String[] args) {
        rules();
        toldOfDevices();
        devices();
        ports();
        hubs();
        octets();
        addressesAndHelpers();
        allThere();
        counts();
        Checks.finish();
    }

    private static void rules() {
        HubTree x = Checks.withTree("d");
        int[] usual = {4, 3, 2, 2, 5, 99, 60, 9};
        HubTree y = Checks.withTree("sa8h11m22p3y4r5d6n2;d");
        int[] told = {2, 6, 5, 4, 3, 22, 11, 8};
        for (int what = 0; what < 8; what++) {
            Checks.due("rule, without " + what, usual[what], x.rule(what));
            Checks.due("rule, told " + what, told[what], y.rule(what));
        }
        Checks.due("rule: no such what", NONE, x.rule(8));
        Checks.due("rule: no such what below", NONE, x.rule(-1));
    }

    private static void toldOfDevices() {
        HubTree x = Checks.withTree("d;de3b99o1u9s2n4");
        int[][] want = {{0, 1, 1, 0, 4, 0}, {4, 2, 9, 1, 99, 3}};
        for (int d = 0; d < 2; d++) {
            for (int what = 0; what < 6; what++) {
                Checks.due("told " + d + " " + what, want[d][what], x.told(d, what));
            }
        }
        x.error(1, 1);
        Checks.due("told: ERROR as now", 1, x.told(1, 5));
        Checks.due("told: no such what", NONE, x.told(0, 6));
        Checks.due("told: no such what below", NONE, x.told(0, -1));
        Checks.due("told: no such DEVICE", NONE, x.told(2, 0));
        Checks.due("told: no such DEVICE below", NONE, x.told(-1, 0));
        Checks.due("told: the ROOT is none", NONE, x.told(8, 0));
    }

    private static void isAll(String when, HubTree x, int device, int... want) {
        for (int what = 0; what <= 12; what++) {
            Checks.due(when + ": device " + device + " " + what, want[what], Checks.device(x, device, what));
        }
    }

    private static void devices() {
        HubTree x = Checks.withTree("sd2r2;dn2s2u3o1;dn1u1;du2");
        isAll("AWAY", x, 0, 0, 0, 0, 0, NONE, NONE, NONE, 0, 0, 1, 0, 0, 0);
        isAll("AWAY", x, 2, 0, 0, 0, 0, NONE, NONE, NONE, 0, 0, 0, 0, 2, 0);
        x.plug(0, 8, 3);
        x.plug(1, 0, 1);
        x.plug(2, 1, 0);
        isAll("SETTLING", x, 2, 1, 2, 0, 0, 1, 0, NONE, 0, 0, 0, 3, 2, 0);
        x.tick(1);
        isAll("SETTLING on", x, 2, 1, 1, 0, 0, 1, 0, NONE, 0, 0, 0, 3, 2, 0);
        x.tick(1);
        isAll("in RESET", x, 0, 3, 2, 0, 0, 8, 3, NONE, 0, 0, 1, 1, 0, 0);
        isAll("WAITING", x, 1, 2, 0, 2, 0, 0, 1, NONE, 0, 0, 0, 2, 1, 0);
        isAll("WAITING", x, 2, 2, 0, 3, 0, 1, 0, NONE, 0, 0, 0, 3, 2, 0);
        x.tick(1);
        Checks.due("in RESET on", 1, Checks.device(x, 0, 1));
        x.tick(1);
        isAll("at its FIRST", x, 0, 4, 0, 0, 0, 8, 3, NONE, 0, 0, 1, 1, 0, 0);
        x.tick(1);
        isAll("at its SECOND", x, 0, 5, 0, 0, 0, 8, 3, NONE, 0, 0, 1, 1, 0, 0);
        x.tick(1);
        isAll("CONFIGURED", x, 0, 6, 0, 0, 0, 8, 3, 2, 1, 0, 1, 1, 0, 0);
        isAll("next in RESET", x, 1, 3, 2, 0, 0, 0, 1, NONE, 0, 0, 0, 2, 1, 0);
        x.tick(8);
        isAll("CONFIGURED beneath", x, 1, 6, 0, 0, 0, 0, 1, 1, 2, 0, 0, 2, 1, 0);
        isAll("REFUSED, its PORT GIVES 1", x, 2, 7, 0, 0, 0, 1, 0, NONE, 0, 2, 0, 3, 2, 0);
        x.sleep(1);
        isAll("ASLEEP", x, 1, 6, 0, 0, 0, 0, 1, 1, 2, 0, 0, 2, 0, 1);
        x.again(2);
        isAll("TRIED again", x, 2, 2, 0, 4, 0, 1, 0, NONE, 0, 0, 0, 3, 2, 0);
        x.unplug(0);
        isAll("AWAY again", x, 1, 0, 0, 0, 0, NONE, NONE, NONE, 0, 0, 0, 0, 1, 0);
        Checks.due("device: no such what", -99, Checks.device(x, 0, 13));
        Checks.due("device: no such what below", -99, Checks.device(x, 0, -1));
        Checks.due("device: no such DEVICE", -99, Checks.device(x, 3, 0));
        Checks.due("device: no such DEVICE below", -99, Checks.device(x, -1, 0));
        Checks.due("device: the ROOT is none", -99, Checks.device(x, 8, 0));
    }

    private static void ports() {
        HubTree x = Checks.withTree("sn2;dn3;d");
        x.plug(0, 8, 1);
        x.plug(1, 0, 2);
        Checks.due("port of the ROOT", 0, x.port(8, 1));
        Checks.due("port of the ROOT, free", NONE, x.port(8, 0));
        Checks.due("port of the ROOT, none such", NONE, x.port(8, 2));
        Checks.due("port below", NONE, x.port(8, -1));
        Checks.due("port of a HUB", 1, x.port(0, 2));
        Checks.due("port of a HUB, none such", NONE, x.port(0, 3));
        Checks.due("port of what is no HUB", NONE, x.port(1, 0));
        Checks.due("port of no DEVICE", NONE, x.port(2, 0));
        Checks.due("port of NONE, where AWAY ones say NONE", NONE, x.port(-1, -1));
        Checks.due("port of 9", NONE, x.port(9, 0));
        x.unplug(0);
        Checks.due("port, all gone", NONE, x.port(0, 2));
    }

    private static void hubs() {
        HubTree x = Checks.withTree("sd1r1p7n3;dn4u2;dn2u1b5;du1b3s0;dn1o1");
        for (int what = 0; what < 6; what++) {
            int[] away = {0, 0, 1, HIDDEN, 0, 4};
            Checks.due("an AWAY HUB " + what, away[what], x.hub(0, what));
            int[] root = {0, 0, 7, HIDDEN, 0, 3};
            Checks.due("the ROOT, nothing in it " + what, root[what], x.hub(8, what));
        }
        x.plug(0, 8, 0);
        x.plug(1, 0, 0);
        x.plug(2, 1, 0);
        x.plug(3, 8, 1);
        Checks.due("LEFT of one not CONFIGURED", 5, x.hub(0, 3));
        Checks.due("LEFT of one not CONFIGURED beneath it", 0, x.hub(1, 3));
        x.tick(60);
        // 2 can't have power: of HUB 1 nothing is LEFT.
        Checks.due("BENEATH the ROOT", 15, x.hub(8, 0));
        Checks.due("right at the ROOT", 9, x.hub(8, 1));
        Checks.due("BENEATH a HUB", 6, x.hub(0, 0));
        Checks.due("right at a HUB", 2, x.hub(0, 1));
        Checks.due("LEFT, one CONFIGURED right at it", 4, x.hub(0, 3));
        Checks.due("LEFT of the one beneath", 0, x.hub(1, 3));
        Checks.due("a PORT GIVES with SUPPLY on", 5, x.hub(3, 2));
        Checks.due("LEFT with SUPPLY on", HIDDEN, x.hub(3, 3));
        Checks.due("HELP of the ROOT: bytes 4, 5 and 4 at full", 26, x.hub(8, 4));
        Checks.due("HELP of one that runs at 1", 0, x.hub(0, 4));
        Checks.due("free PORTS of the ROOT", 1, x.hub(8, 5));
        Checks.due("free PORTS of a HUB", 3, x.hub(0, 5));
        Checks.due("hub: no HUB", HIDDEN, x.hub(2, 0));
        Checks.due("hub: no DEVICE", HIDDEN, x.hub(4, 0));
        Checks.due("hub: below", HIDDEN, x.hub(-1, 0));
        Checks.due("hub: 9", HIDDEN, x.hub(9, 0));
        Checks.due("hub: no such what", HIDDEN, x.hub(8, 6));
        Checks.due("hub: no such what below", HIDDEN, x.hub(8, -1));
        x.sleep(1);
        Checks.due("HELP without who is ASLEEP", 16, x.hub(8, 4));
        Checks.due("LEFT without who is ASLEEP", 5, x.hub(0, 3));
    }

    private static void tells(HubTree x, int device, int... want) {
        for (int i = 0; i < want.length; i++) {
            Checks.due("octet " + device + " " + i, want[i], x.octet(device, i));
        }
        Checks.due("octet " + device + ": behind", NONE, x.octet(device, want.length));
    }

    private static void octets() {
        HubTree x = Checks.withTree("d;dn3s2u9o1b99;dn1e1;du0b0s0e2;dn4e3");
        tells(x, 0, 8, 1, 1, 1, 0, 4, 0, 241);
        tells(x, 1, 11, 9, 2, 9, 3, 99, 1, 10, 11, 12, 89);
        tells(x, 2, 3, 9, 1, 1, 1, 4, 0, 10, 256 - 35);
        tells(x, 3, 8, 1, 0, 0, 0, 0, 0, 248);
        tells(x, 4, 12, 9, 1, 1, 7, 4, 0, 10, 11, 12, 13, 176);
        x.supply(1);
        Checks.due("octet: OWN, whatever SUPPLY is", 1, x.octet(1, 6));
        x.error(4, 0);
        Checks.due("octet: no ERROR any more", 4, x.octet(4, 4));
        Checks.due("octet: CHECK without ERROR", 179, x.octet(4, 11));
        Checks.due("octet: below", NONE, x.octet(0, -1));
        Checks.due("octet: far above", NONE, x.octet(0, Integer.MAX_VALUE));
        Checks.due("octet: no such DEVICE", NONE, x.octet(5, 0));
        Checks.due("octet: no such DEVICE below", NONE, x.octet(-1, 0));
    }

    private static void addressesAndHelpers() {
        HubTree x = Checks.withTree("sd1r1a3;dn4s2o1;dn4s1o1;ds2;ds0;ds2");
        x.plug(2, 8, 0);
        x.tick(4);
        x.plug(0, 8, 1);
        x.tick(4);
        x.plug(1, 0, 0);
        x.tick(4);
        Checks.due("at 1", 2, x.at(1));
        Checks.due("at 2", 0, x.at(2));
        Checks.due("at 3", 1, x.at(3));
        Checks.due("at 0: nobody has it", NONE, x.at(0));
        Checks.due("at 4", NONE, x.at(4));
        Checks.due("at below", NONE, x.at(-1));
        x.unplug(2);
        Checks.due("at 1: left", NONE, x.at(1));
        x.plug(3, 1, 0);
        x.tick(4);
        Checks.due("at 1: the least free one", 3, x.at(1));
        Checks.due("helper: the first above that runs at 2", 0, x.helper(3));
        Checks.due("helper of the HUB between", 0, x.helper(1));
        Checks.due("helper: it runs at 2", NONE, x.helper(0));
        Checks.due("HELP of the fast HUB", 8 + 32, x.hub(0, 4));
        Checks.due("HELP of the ROOT", 0, x.hub(8, 4));
        x.plug(4, 1, 1);
        Checks.due("helper: not CONFIGURED", NONE, x.helper(4));
        x.tick(4);
        Checks.due("no ADDRESS is free", 5, Checks.device(x, 4, 8));
        x.unplug(3);
        x.again(4);
        x.tick(4);
        Checks.due("2 runs at 1 beneath one that runs at 1", 1, Checks.device(x, 4, 6));
        Checks.due("and has a helper", 0, x.helper(4));
        x.sleep(4);
        Checks.due("also ASLEEP", 0, x.helper(4));
        Checks.due("helper: AWAY", NONE, x.helper(2));
        Checks.due("helper: no such DEVICE", NONE, x.helper(5));
        Checks.due("helper: below", NONE, x.helper(-1));
        Checks.due("helper: the ROOT", NONE, x.helper(8));
    }

    private static void alls(String when, HubTree x, int... want) {
        for (int what = 0; what <= 12; what++) {
            Checks.due(when + ": all " + what, want[what], x.all(what));
        }
        Checks.due(when + ": all 13", HIDDEN, x.all(13));
        Checks.due(when + ": all below", HIDDEN, x.all(-1));
    }

    private static void allThere() {
        HubTree x = Checks.withTree("sd2r1a5;dn2o1b0;db7s0;ds2b6u9;do1;dn4o1");
        alls("new", x, 0, 31, 0, 0, 0, 0, NONE, 0, 0, 5, 17, 0, 0);
        x.plug(0, 8, 0);
        x.plug(1, 0, 0);
        x.tick(1);
        x.plug(2, 8, 1);
        alls("SETTLING", x, 1, 24, 7, 0, 0, 0, NONE, 0, 2, 5, 17, 0, 0);
        x.tick(1);
        alls("in RESET", x, 2, 24, 4, 2, 0, 0, 0, 0, 2, 5, 17, 0, 0);
        x.tick(3);
        alls("the first", x, 5, 24, 0, 4, 1, 0, 1, 0, 2, 4, 17, 0, 0);
        x.tick(3);
        alls("the second", x, 8, 24, 0, 0, 3, 0, 2, 11, 2, 3, 17, 0, 0);
        x.tick(3);
        alls("the third", x, 11, 24, 0, 0, 3, 4, NONE, 11, 2, 3, 17, 0, 0);
        x.sleep(1);
        x.sleep(0);
        x.supply(4);
        alls("two ASLEEP", x, 11, 24, 0, 0, 3, 4, NONE, 0, 2, 3, 1, 3, 1);
        x.sleep(0);
        alls("one ASLEEP", x, 11, 24, 0, 0, 3, 4, NONE, 0, 2, 3, 1, 2, 2);
        x.unplug(0);
        alls("the HUB left", x, 11, 27, 0, 0, 0, 4, NONE, 0, 1, 5, 1, 0, 0);
    }

    private static void counts() {
        HubTree x = Checks.withTree("d;d");
        Checks.script(x, "t1");
        Checks.feed(x, "abc");
        x.plug(0, 8, 0);
        x.tick(1);
        x.tick(1);
        x.undo();
        int[] want = {2, 1, 3, 2, 2};
        for (int what = 0; what < want.length; what++) {
            Checks.due("count " + what, want[what], x.count(what));
        }
        Checks.due("count: others", HIDDEN, x.count(5));
        Checks.due("count: below", HIDDEN, x.count(-1));
    }
}
