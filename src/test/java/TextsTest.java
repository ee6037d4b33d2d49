/** Promises 1 to 5 and 32: a new object, the TAPE, FAULTS, TREES and SCRIPTS taken. */
public final class TextsTest {
    private TextsTest() {}

    public static void main(String[] args) {
        newObject();
        feedTakesBytes();
        endCuts();
        faultsOfTrees();
        faultsOfScripts();
        treesAreTaken();
        scriptsAreTaken();
        stepsAreTold();
        Checks.finish();
    }

    private static void newObject() {
        HubTree x = new HubTree();
        for (int what = 0; what < 5; what++) {
            Checks.due("new: count " + what, 0, x.count(what));
        }
        for (int what = 0; what < 4; what++) {
            Checks.due("new: status " + what, 0, x.status(what));
        }
        Checks.due("new: rule", HubTree.NONE, x.rule(0));
        Checks.due("new: told", HubTree.NONE, x.told(0, 0));
        Checks.due("new: device", -99, Checks.device(x, 0, 0));
        Checks.due("new: port", HubTree.NONE, x.port(8, 0));
        Checks.due("new: hub", HubTree.HIDDEN, x.hub(8, 0));
        Checks.due("new: all", HubTree.HIDDEN, x.all(0));
        Checks.due("new: at", HubTree.NONE, x.at(1));
        Checks.due("new: order", HubTree.NONE, x.order(0));
        Checks.due("new: place", HubTree.NONE, x.place(0));
        Checks.due("new: lost", HubTree.NONE, x.lost(0));
        Checks.due("new: years", HubTree.NONE, x.years(1, 1));
        Checks.due("new: log", HubTree.HIDDEN, x.log(0, 0));
        Checks.due("NONE", -1, HubTree.NONE);
        Checks.due("HIDDEN", -1000000, HubTree.HIDDEN);
    }

    private static void feedTakesBytes() {
        HubTree x = new HubTree();
        Checks.due("feed nothing", 0, x.feed(0, 0, 0, 0, 0));
        Checks.due("feed, zeros left out", 3, x.feed(0x64000000, 0, 0x00003B00, 0, 0x00000064));
        Checks.due("the bytes stand in their order: d;d", HubTree.NONE, x.fault(0));
        Checks.due("two devices", 2, x.text(0));
        Checks.due("feed, the highest byte above 127", 1, x.feed(0xFF000000, 0, 0, 0, 0));
        x.end(0);
        for (int i = 1; i <= 12; i++) {
            Checks.due("feed 20", 20 * i, x.feed(0x20202020, 0x20202020, 0x20202020, 0x20202020, 0x20202020));
        }
        Checks.due("feed: 241 by the first", HubTree.NONE, x.feed(1, 0, 0, 0, 0));
        Checks.due("feed: 241 by the second", HubTree.NONE, x.feed(0, 1 << 8, 0, 0, 0));
        Checks.due("feed: 241 by the third", HubTree.NONE, x.feed(0, 0, 1 << 16, 0, 0));
        Checks.due("feed: 241 by the fourth", HubTree.NONE, x.feed(0, 0, 0, 1 << 24, 0));
        Checks.due("feed: 241 by the fifth", HubTree.NONE, x.feed(0, 0, 0, 0, 1 << 31));
        Checks.due("feed: refused, nothing came", 240, x.count(2));
        Checks.due("feed: none more is no more than 240", 240, x.feed(0, 0, 0, 0, 0));
        x.end(230);
        Checks.due("feed: 250", HubTree.NONE, x.feed(0x20202020, 0x20202020, 0x20200000, 0x20000000, 0));
        Checks.due("feed: 240", 240, x.feed(0x20202020, 0x20202020, 0x20200000, 0, 0));
        Checks.due("240 blanks, a FAULT behind them", 240, x.fault(0));
    }

    private static void endCuts() {
        HubTree x = Checks.withTape("d;x");
        Checks.holds("end: above", !x.end(4));
        Checks.holds("end: below", !x.end(-1));
        Checks.holds("end: far below", !x.end(Integer.MIN_VALUE));
        Checks.due("end: refused, nothing cut", 3, x.count(2));
        Checks.holds("end: as it is", x.end(3));
        Checks.holds("end: 1", x.end(1));
        Checks.due("end: cut", 1, x.count(2));
        Checks.due("end: d is left", HubTree.NONE, x.fault(0));
        Checks.holds("end: no more than there is now", !x.end(2));
        Checks.holds("end: 0", x.end(0));
    }

    private static void tree(String text, int fault) {
        Checks.due("FAULT of the TREE '" + text + "'", fault, Checks.withTape(text).fault(0));
    }

    private static void faultsOfTrees() {
        Checks.due("no such sort", -2, Checks.withTape("d").fault(2));
        Checks.due("no such sort below", -2, Checks.withTape("d").fault(-1));
        tree("", 0);
        tree("  ", 2);
        tree("d", -1);
        tree("  d  ", -1);
        tree("s", 1);
        tree("s ", 2);
        tree("s;", 2);
        tree("s;d", -1);
        tree("d;s", -1);
        tree("d;", 2);
        tree("d; ", 3);
        tree(";d", 0);
        tree("d;;d", 2);
        tree("x", 0);
        tree("D", 0);
        tree("d" + (char) 233, 1);
        tree("d,d", 1);
        tree("dd", 1);
        tree("d5", 1);
        tree("dn", 2);
        tree("dn ", 3);
        tree("dn;", 2);
        tree("dnn", 2);
        tree("dn4", -1);
        tree("dn5", 2);
        tree("dn0", -1);
        tree("dn04", -1);
        tree("dn004", -1);
        tree("dn005", 4);
        tree("dn0004", 5);
        tree("dn9999", 5);
        tree("dn1 2", 4);
        tree("d n 1 s 2 u 9 o 1 b 99 e 3", -1);
        tree("ds3", 2);
        tree("du10", 3);
        tree("do2", 2);
        tree("db100", 4);
        tree("de4", 2);
        tree("dn1n1", 3);
        tree("dn1;dn1", -1);
        tree("dp1", 1);
        tree("sb1", 1);
        tree("sn1d9r9y5p9m200h99a9;d", -1);
        tree("sn0;d", 2);
        tree("sn5;d", 2);
        tree("sd0;d", 2);
        tree("sd10;d", 3);
        tree("sr0;d", 2);
        tree("sr10;d", 3);
        tree("sy0;d", 2);
        tree("sy6;d", 2);
        tree("sp0;d", 2);
        tree("sp10;d", 3);
        tree("sm19;d", 3);
        tree("sm20;d", -1);
        tree("sm200;d", -1);
        tree("sm201;d", 4);
        tree("sm9", 2);
        tree("sh9;d", 2);
        tree("sh10;d", -1);
        tree("sh99;d", -1);
        tree("sh100;d", 4);
        tree("sa0;d", 2);
        tree("sa10;d", 3);
        tree("sd1d1;d", 3);
        tree("s;s", 2);
        tree("sn1; s;d", 5);
        tree("d;d;d;d;d;d;d;d", -1);
        tree("d;d;d;d;d;d;d;d;s", -1);
        tree("s;d;d;d;d;d;d;d;d", -1);
        tree("d;d;d;d;d;d;d;d; d", 17);
    }

    private static void script(String text, int fault) {
        Checks.due("FAULT of the SCRIPT '" + text + "'", fault, Checks.withTape(text).fault(1));
    }

    private static void faultsOfScripts() {
        script("", 0);
        script(" ", 1);
        script("p012", -1);
        script(" p 0 1 2 ; t 99 ", -1);
        script("p01", 3);
        script("p01;", 3);
        script("p0123", 4);
        script("p999", -1);
        script("u", 1);
        script("u9", -1);
        script("u12", 2);
        script("u1;", 3);
        script("u1 u2", 3);
        script("t", 1);
        script("t;", 1);
        script("t0", -1);
        script("t99", -1);
        script("t100", 3);
        script("t000", 3);
        script("t1 2", 3);
        script("o3", -1);
        script("oo", 1);
        script("e", 1);
        script("e0", 2);
        script("e 0 9", -1);
        script("e012", 3);
        script("z7", -1);
        script("s", 0);
        script("z0;;z0", 3);
        String fifteen = "z0;z0;z0;z0;z0;z0;z0;z0;z0;z0;z0;z0;z0;z0;z0;";
        script(fifteen, 45);
        script(fifteen + "z0", -1);
        script(fifteen + "z0 ", -1);
        script(fifteen + "z0;", 47);
        script(fifteen + "z0 ;z0", 48);
    }

    private static void treesAreTaken() {
        HubTree x = Checks.withTape("dn");
        Checks.due("text: a FAULT", HubTree.NONE, x.text(0));
        Checks.due("text: a FAULT, the TAPE stays", 2, x.count(2));
        Checks.due("text: no such sort", HubTree.NONE, x.text(2));
        Checks.due("text: no such sort below", HubTree.NONE, x.text(-1));
        Checks.due("text: no TREE came", 0, x.count(0));
        Checks.feed(x, "2o1;d");
        Checks.due("text: two DEVICES", 2, x.text(0));
        Checks.due("text: the TAPE is empty", 0, x.count(2));
        Checks.due("text: nothing more to take", HubTree.NONE, x.text(0));
        Checks.due("text: the TREE stays", 2, x.count(0));

        Checks.script(x, "t1");
        x.plug(0, 8, 0);
        x.plug(0, 8, 0);
        x.tick(9);
        x.supply(0);
        x.error(1, 3);
        x.image();
        Checks.feed(x, "sa1;d;dn1o1e2;d");
        Checks.due("text: another TREE", 3, x.text(0));
        Checks.due("another TREE: TIME", 0, x.all(0));
        Checks.due("another TREE: all AWAY", 7, x.all(1));
        Checks.due("another TREE: the LOG is gone", 0, x.count(3));
        Checks.due("another TREE: no ACT to undo", 0, x.count(4));
        Checks.due("another TREE: undo", HubTree.NONE, x.undo());
        Checks.due("another TREE: the IMAGE is gone", HubTree.NONE, x.back());
        Checks.due("another TREE: SCRIPTS stay", 1, x.count(1));
        Checks.due("another TREE: STATUS stays", 1, x.status(2));
        Checks.due("another TREE: ERROR as told", 2, x.told(1, 5));
        Checks.due("another TREE: SUPPLY on, if OWN", 1, Checks.device(x, 1, 9));
        Checks.due("another TREE: SUPPLY off, if not", 0, Checks.device(x, 0, 9));
        x.plug(0, 8, 0);
        x.tick(7);
        Checks.due("another TREE: TURNS begin anew", 1, x.at(1) + 1);
        Checks.due("another TREE: its RULES", 1, x.rule(7));
    }

    private static void scriptsAreTaken() {
        HubTree x = new HubTree();
        for (int i = 0; i < 4; i++) {
            Checks.due("text: SCRIPT " + i + " without a TREE", i, Checks.script(x, "t" + (i + 1)));
        }
        Checks.due("text: a fifth SCRIPT", HubTree.NONE, Checks.script(x, "t5"));
        Checks.due("text: a fifth SCRIPT, the TAPE stays", 2, x.count(2));
        Checks.due("text: four SCRIPTS", 4, x.count(1));
        for (int i = 0; i < 4; i++) {
            Checks.due("SCRIPT " + i, i + 1, x.step(i, 0, 1));
        }
        HubTree y = new HubTree();
        Checks.due("text: a SCRIPT with a FAULT", HubTree.NONE, Checks.script(y, "p01"));
        Checks.due("text: a SCRIPT with a FAULT, the TAPE stays", 3, y.count(2));
        Checks.due("text: no SCRIPT came", 0, y.count(1));
    }

    private static void stepsAreTold() {
        HubTree x = new HubTree();
        Checks.script(x, "p789;u6;t45;o3;e29;z1;t7;t00");
        int[][] want = {
            {0, 7, 8, 9}, {1, 6, -1, -1}, {2, 45, -1, -1}, {3, 3, -1, -1}, {4, 2, 9, -1}, {5, 1, -1, -1},
            {2, 7, -1, -1}, {2, 0, -1, -1},
        };
        for (int i = 0; i < want.length; i++) {
            for (int what = 0; what < 4; what++) {
                Checks.due("step " + i + " " + what, want[i][what], x.step(0, i, what));
            }
        }
        Checks.due("step: no such SCRIPT", HubTree.HIDDEN, x.step(1, 0, 0));
        Checks.due("step: no such SCRIPT below", HubTree.HIDDEN, x.step(-1, 0, 0));
        Checks.due("step: no such SCRIPT of four", HubTree.HIDDEN, x.step(4, 0, 0));
        Checks.due("step: no such STEP", HubTree.HIDDEN, x.step(0, 8, 0));
        Checks.due("step: no such STEP below", HubTree.HIDDEN, x.step(0, -1, 0));
        Checks.due("step: no such what", HubTree.HIDDEN, x.step(0, 0, 4));
        Checks.due("step: no such what below", HubTree.HIDDEN, x.step(0, 0, -1));
    }
}
