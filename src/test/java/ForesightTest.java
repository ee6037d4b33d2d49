/** Promises 25 to 31, 33 and 34: what is ahead, what would be, and SCRIPTS run and done. */
public final class ForesightTest {
    private static final int NONE = HubTree.NONE;
    private static final int HIDDEN = HubTree.HIDDEN;

    private ForesightTest() {}

    public static void main(String[] args) {
        whenOnesRun();
        statesAhead();
        lastChanges();
        places();
        orders();
        losses();
        shares();
        runs();
        performs();
        endOfTime();
        Checks.finish();
    }

    private static void whenOnesRun() {
        HubTree x = Checks.withTree("dn2;d;de1;du9;d");
        x.plug(1, 8, 0);
        x.plug(0, 8, 1);
        x.plug(2, 0, 0);
        x.plug(3, 0, 1);
        Checks.due("when: 3 settling, 2 in RESET, 2 bites", 7, x.when(0));
        Checks.due("when: 4 more", 11, x.when(1));
        Checks.due("when: its bytes are wrong", NONE, x.when(2));
        Checks.due("when: too much power", NONE, x.when(3));
        Checks.due("when: AWAY", NONE, x.when(4));
        Checks.due("when: no such DEVICE", NONE, x.when(5));
        Checks.due("when: no such DEVICE below", NONE, x.when(-1));
        Checks.due("nothing changed", 0, x.all(0));
        Checks.due("nothing changed: SETTLING", 15, x.all(2));
        x.tick(6);
        Checks.due("when: the next TICK", 1, x.when(0));
        x.tick(1);
        Checks.due("when: it is", 0, x.when(0));
        // Three that FAIL again and again: who is PLUGGED behind them waits for a TRY of each.
        HubTree y = Checks.withTree("sd9r9y5n4;de1;de1;de1;de1;d");
        for (int d = 0; d < 4; d++) {
            y.plug(d, 8, d);
        }
        y.tick(60);
        y.unplug(3);
        y.plug(4, 8, 3);
        int ticks = y.when(4);
        Checks.holds("when: CONFIGURED then, not ahead", ticks > 1);
        Checks.due("when: not yet", 0, y.ahead(ticks - 1, 0));
        Checks.due("when: then", 16, y.ahead(ticks, 0));
    }

    private static void statesAhead() {
        HubTree x = Checks.withTree("sd1r1y1;d;de2;d");
        x.plug(0, 8, 0);
        x.plug(1, 8, 1);
        x.plug(2, 8, 2);
        Checks.due("ahead 0", 0, x.ahead(0, 0));
        Checks.due("ahead 3", 0, x.ahead(3, 0));
        Checks.due("ahead 4", 1, x.ahead(4, 0));
        Checks.due("ahead 6, REFUSED", 0, x.ahead(6, 1));
        Checks.due("ahead 7, REFUSED", 2, x.ahead(7, 1));
        Checks.due("ahead 200", 5, x.ahead(200, 0));
        Checks.due("ahead 201", NONE, x.ahead(201, 0));
        Checks.due("ahead below", NONE, x.ahead(-1, 0));
        Checks.due("ahead: no such what", NONE, x.ahead(0, 2));
        Checks.due("ahead: no such what below", NONE, x.ahead(0, -1));
        Checks.due("nothing changed", 7, x.all(2));
    }

    private static void lastChanges() {
        HubTree x = Checks.withTree("sd1r1y2;dn1;d;de1");
        Checks.due("last: all AWAY", 0, x.last());
        x.plug(0, 8, 0);
        Checks.due("last", 4, x.last());
        x.plug(1, 0, 0);
        Checks.due("last, two", 7, x.last());
        x.tick(7);
        Checks.due("last: nothing more", 0, x.last());
        x.plug(2, 8, 1);
        Checks.due("last: two TRIES at its FIRST", 5, x.last());
        x.tick(5);
        Checks.due("last: REFUSED", 0, x.last());
        x.sleep(1);
        x.sleep(0);
        x.unplug(1);
        x.plug(1, 0, 0);
        Checks.due("last: WAITING beneath one ASLEEP is no change", 1, x.last());
        HubTree y = Checks.withTree("sd9r9y5;de2;de2;de2;dn4e2;de2;de2;de2;de2");
        for (int d = 0; d < 4; d++) {
            y.plug(d, 8, d);
        }
        // Each needs 11 TICKS a TRY behind the first 9: four with five TRIES end at 9 and 220.
        Checks.due("last: not within 200", NONE, y.last());
        y.tick(28);
        Checks.due("last: 201", NONE, y.last());
        y.tick(1);
        Checks.due("last: 200", 200, y.last());
    }

    private static void places() {
        HubTree x = Checks.withTree("sn2d1r1;dn4;dn4o1;du2;d;d");
        Checks.due("place: the ROOT alone", 80, x.place(2));
        x.plug(0, 8, 0);
        Checks.due("place: beneath 0 it has no power", 81, x.place(2));
        Checks.due("place: no sooner beneath 0", 7, whenPlugged("sn2d1r1;dn4;d", 1, 0, 0));
        Checks.due("place: at once with 0, TURNS by number", 0, x.place(3));
        x.tick(4);
        Checks.due("place: as soon in both: the least", 0, x.place(3));
        x.plug(4, 0, 0);
        Checks.due("place: the least that is free", 1, x.place(3));
        x.sleep(0);
        Checks.due("place: not beneath one ASLEEP", 81, x.place(3));
        x.plug(1, 8, 1);
        x.tick(60);
        Checks.due("place: a HUB with its SUPPLY", 10, x.place(2));
        x.supply(1);
        Checks.due("place: none", NONE, x.place(2));
        Checks.due("place: it is not AWAY", NONE, x.place(0));
        Checks.due("place: no such DEVICE", NONE, x.place(5));
        Checks.due("place: no such DEVICE below", NONE, x.place(-1));
        Checks.due("nothing changed", 12, x.all(1));
        HubTree y = Checks.withTree("d;de1");
        Checks.due("place: it would FAIL everywhere", NONE, y.place(1));
    }

    /** When a DEVICE runs that is PLUGGED there right behind DEVICE 0 at the ROOT. */
    private static int whenPlugged(String tree, int device, int hub, int port) {
        HubTree x = Checks.withTree(tree);
        x.plug(0, 8, 0);
        x.plug(device, hub, port);
        return x.when(device);
    }

    private static void orders() {
        HubTree x = Checks.withTree("sd1r1;d;dn2;de1;d;d");
        Checks.due("order: all AWAY", NONE, x.order(0));
        x.plug(4, 8, 0);
        x.tick(4);
        x.plug(3, 8, 1);
        x.tick(1);
        x.plug(1, 8, 2);
        x.plug(0, 1, 0);
        x.plug(2, 1, 1);
        Checks.due("order: the one in RESET", 3, x.order(0));
        Checks.due("order: the HUB, though 0 has the least TURN", 1, x.order(1));
        Checks.due("order: what is beneath", 0, x.order(2));
        Checks.due("order: no more", NONE, x.order(3));
        Checks.due("order: far more", NONE, x.order(Integer.MAX_VALUE));
        Checks.due("order: below", NONE, x.order(-1));
        x.tick(60);
        Checks.due("order: nobody", NONE, x.order(0));
    }

    private static void losses() {
        HubTree x = Checks.withTree("sd1r1p3;dn4o1u2;du1;du1;dn1u1;d;dn1o1;dn1o1u4");
        x.plug(0, 8, 0);
        x.plug(1, 0, 0);
        x.plug(2, 0, 1);
        x.plug(3, 0, 2);
        x.plug(4, 3, 0);
        x.tick(16);
        Checks.due("CONFIGURED", 31, x.all(4));
        // Of 3 its own 2: 1 is left for three that take 1 each: 3 and 2 go, 4 waits for 3.
        Checks.due("lost", 4 + 8 + 16, x.lost(0));
        Checks.due("lost: nothing changed", 31, x.all(4));
        Checks.due("lost: it is on", 1, Checks.device(x, 0, 9));
        Checks.due("lost: AWAY, nobody", 0, x.lost(5));
        x.plug(6, 8, 1);
        x.tick(4);
        Checks.due("lost: itself", 64, x.lost(6));
        x.supply(0);
        Checks.due("it is so", 1 + 2 + 64, x.all(4));
        Checks.due("lost: its SUPPLY is not on", NONE, x.lost(0));
        Checks.due("lost: it has none", NONE, x.lost(1));
        Checks.due("lost: no such DEVICE", NONE, x.lost(7));
        Checks.due("lost: no such DEVICE below", NONE, x.lost(-1));
    }

    private static void shares() {
        HubTree x = Checks.withTree("sd1r1;db3;db4;db0;db9");
        x.plug(0, 8, 0);
        Checks.due("shares: not CONFIGURED", NONE, x.shares(0, 1));
        x.plug(1, 8, 1);
        x.plug(2, 8, 2);
        x.tick(10);
        Checks.due("shares: 3 of 7, cut", 428, x.shares(0, 999));
        Checks.due("shares: 4 of 7, cut", 57, x.shares(1, 100));
        Checks.due("shares: none of its own", 0, x.shares(2, 999));
        Checks.due("shares of 0", 0, x.shares(0, 0));
        Checks.due("shares of 1000", NONE, x.shares(0, 1000));
        Checks.due("shares below", NONE, x.shares(0, -1));
        Checks.due("shares: AWAY", NONE, x.shares(3, 1));
        Checks.due("shares: no such DEVICE", NONE, x.shares(4, 1));
        Checks.due("shares: no such DEVICE below", NONE, x.shares(-1, 1));
        x.sleep(1);
        Checks.due("shares: who is ASLEEP is CONFIGURED", 428, x.shares(0, 999));
        x.unplug(0);
        x.unplug(1);
        Checks.due("shares: none has any", 0, x.shares(2, 999));
    }

    private static void runs() {
        HubTree x = new HubTree();
        Checks.script(x, "p080;t4;z0;o0");
        Checks.due("run: no TREE", HIDDEN, x.run(0, 0));
        Checks.due("perform: no TREE", NONE, x.perform(0));
        x.end(0);
        Checks.feed(x, "sd1r1;do1;d");
        x.text(0);
        Checks.due("run: all can be", NONE, x.run(0, 0));
        Checks.due("run: CONFIGURED", 1, x.run(0, 1));
        Checks.script(x, "p080;t61;u0");
        Checks.due("run: 61 TICKS can't be", 1, x.run(1, 0));
        Checks.due("run: CONFIGURED ahead of that", 0, x.run(1, 1));
        Checks.script(x, "t0");
        Checks.due("run: 0 TICKS can't be", 0, x.run(2, 0));
        Checks.script(x, "p080;p181;e11;t60;u0;e10;e14;u0");
        Checks.due("run: no ERROR 4", 6, x.run(3, 0));
        Checks.due("run: 1 FAILED, 0 left", 0, x.run(3, 1));
        Checks.due("run: no such SCRIPT", HIDDEN, x.run(4, 0));
        Checks.due("run: no such SCRIPT below", HIDDEN, x.run(-1, 0));
        Checks.due("run: no such what", HIDDEN, x.run(0, 2));
        Checks.due("run: no such what below", HIDDEN, x.run(0, -1));
        Checks.due("run: nothing changed", 3, x.all(1));
        Checks.due("run: no ACT", 0, x.count(4));
        Checks.due("run: no LOG", 0, x.count(3));
    }

    private static void performs() {
        HubTree x = Checks.withTree("sd1r1;dn1o1;d");
        Checks.script(x, "p080;p100;t7;z1;e12;o0;p980");
        Checks.due("perform: up to what can't be", 6, x.perform(0));
        Checks.due("perform: CONFIGURED", 3, x.all(4));
        Checks.due("perform: ASLEEP", 2, x.all(11));
        Checks.due("perform: ERROR", 2, x.told(1, 5));
        Checks.due("perform: SUPPLY", 0, Checks.device(x, 0, 9));
        Checks.due("perform: ACTS", 6, x.count(4));
        int[] sorts = {3, 4, 6, 2, 0, 0};
        int[] numbers = {0, 1, 1, 7, 1, 0};
        for (int i = 0; i < 6; i++) {
            Checks.due("perform: LOG sort", sorts[i], x.log(i, 0));
            Checks.due("perform: LOG number", numbers[i], x.log(i, 1));
        }
        Checks.due("perform: no STATUS", 0, x.status(0) + x.status(1) + x.status(2) + x.status(3));
        Checks.due("perform: none can be", 0, x.perform(0));
        Checks.due("undo of one STEP", 5, x.undo());
        Checks.due("SUPPLY is on again", 1, Checks.device(x, 0, 9));
        Checks.due("perform: no such SCRIPT", NONE, x.perform(1));
        Checks.due("perform: no such SCRIPT below", NONE, x.perform(-1));
        Checks.script(x, "u0;t1");
        Checks.due("perform: all", 2, x.perform(1));
        Checks.due("perform: all AWAY", 3, x.all(1));
    }

    private static void endOfTime() {
        HubTree x = Checks.withTree("sd1r1;dn1;d;d;d");
        for (int i = 0; i < 166; i++) {
            x.tick(60);
        }
        x.tick(30);
        x.plug(0, 8, 0);
        x.plug(1, 0, 0);
        x.plug(2, 8, 1);
        Checks.due("TIME 9,990", 9990, x.all(0));
        Checks.due("ahead 9", 7 - 4, x.ahead(9, 0));
        Checks.due("ahead 10", NONE, x.ahead(10, 0));
        Checks.due("when: 7", 7, x.when(1));
        Checks.due("when: TIME ends at 9", NONE, x.when(2));
        Checks.due("last: TIME ends ahead", NONE, x.last());
        Checks.due("order: two come", 1, x.order(1));
        Checks.due("order: the third does not", NONE, x.order(2));
        Checks.due("place: no TIME", NONE, x.place(3));
        x.unplug(2);
        Checks.due("last: 7", 7, x.last());
        x.tick(9);
        Checks.due("last: nothing more at the end of TIME", 0, x.last());
        Checks.due("when: it is, at the end of TIME", 0, x.when(1));
        Checks.due("ahead 0 at the end of TIME", 3, x.ahead(0, 0));
        Checks.script(x, "u1;t1");
        Checks.due("run: no TIME", 1, x.run(0, 0));
    }
}
