import java.util.ArrayList;
import java.util.List;

/**
 * Reads all that can be seen of an object, so that two can be held against each other. What can be seen
 * only by changing it (what would be UNDONE, what an IMAGE keeps, what the TAPE has, the next TURN) is
 * read too: every probe has an object of its own, made anew, which is used for less than 512 calls.
 */
final class Probes {
    /** Makes the same object each time: always by the same calls. */
    interface Maker {
        HubTree make();
    }

    interface Call {
        long on(HubTree x);
    }

    private static final int[] FAR = {0, 1, 2, 3, 5, 8, 13, 21, 34, 55, 89, 144, 200};

    /** The probes beside STATUS. */
    static final int PROBES = 13;
    static final int OF_LOG = 4;
    static final int OF_UNDOING = 6;

    private Probes() {}

    static List<Long> status(HubTree x) {
        List<Long> seen = new ArrayList<>();
        for (int what = 0; what < 4; what++) {
            seen.add((long) x.status(what));
        }
        return seen;
    }

    static List<Long> read(int probe, HubTree x) {
        List<Long> seen = new ArrayList<>();
        switch (probe) {
            case 0: devices(x, seen); break;
            case 1: wholes(x, seen); break;
            case 2: hubs(x, seen); break;
            case 3: octets(x, seen); break;
            case OF_LOG: log(x, seen); break;
            case 5: steps(x, seen); break;
            case OF_UNDOING: undone(x, seen); break;
            case 7: back(x, seen); break;
            case 8: tapeAsTree(x, seen); break;
            case 9: tapeAsScript(x, seen); break;
            case 10: foreseen(x, seen); break;
            case 11: nextTurns(x, seen); break;
            default: tapeByByte(x, seen); break;
        }
        return seen;
    }

    private static void add(List<Long> seen, long answer) {
        seen.add(answer);
    }

    private static void devices(HubTree x, List<Long> seen) {
        for (int d = 0; d < 8; d++) {
            for (int what = 0; what <= 12; what++) {
                add(seen, Checks.device(x, d, what));
            }
        }
    }

    private static void wholes(HubTree x, List<Long> seen) {
        for (int what = 0; what <= 12; what++) {
            add(seen, x.all(what));
        }
        for (int what = 0; what < 8; what++) {
            add(seen, x.rule(what));
            for (int d = 0; d < 8 && what < 6; d++) {
                add(seen, x.told(d, what));
            }
        }
        for (int what = 0; what < 5; what++) {
            add(seen, x.count(what));
        }
    }

    private static void hubs(HubTree x, List<Long> seen) {
        for (int hub = 0; hub <= 8; hub++) {
            for (int what = 0; what < 6; what++) {
                add(seen, x.hub(hub, what));
            }
            for (int port = 0; port < 4; port++) {
                add(seen, x.port(hub, port));
            }
            add(seen, x.at(hub + 1));
            add(seen, x.helper(hub));
        }
    }

    private static void octets(HubTree x, List<Long> seen) {
        for (int d = 0; d < 8; d++) {
            for (int i = 0; i < 12; i++) {
                add(seen, x.octet(d, i));
            }
        }
    }

    private static void log(HubTree x, List<Long> seen) {
        for (int i = 0; i < 60; i++) {
            for (int what = 0; what < 3; what++) {
                add(seen, x.log(i, what));
            }
        }
    }

    private static void steps(HubTree x, List<Long> seen) {
        for (int script = 0; script < 4; script++) {
            for (int i = 0; i < 16; i++) {
                for (int what = 0; what < 4; what++) {
                    add(seen, x.step(script, i, what));
                }
            }
        }
    }

    private static void undone(HubTree x, List<Long> seen) {
        for (int i = 0; i < 41; i++) {
            add(seen, x.undo());
            for (int what = 0; what <= 5; what++) {
                add(seen, x.all(what));
            }
            add(seen, x.count(3));
            add(seen, x.log(0, 1));
            add(seen, x.log(59, 1));
        }
    }

    private static void back(HubTree x, List<Long> seen) {
        add(seen, x.back());
        devices(x, seen);
        wholes(x, seen);
        add(seen, x.log(0, 0));
        add(seen, x.log(0, 1));
        add(seen, x.undo());
    }

    private static void tapeAsTree(HubTree x, List<Long> seen) {
        add(seen, x.fault(0));
        add(seen, x.fault(1));
        add(seen, x.text(0));
        wholes(x, seen);
    }

    private static void tapeAsScript(HubTree x, List<Long> seen) {
        add(seen, x.text(1));
        steps(x, seen);
        add(seen, x.count(2));
    }

    private static void tapeByByte(HubTree x, List<Long> seen) {
        int length = x.count(2);
        for (int n = length; n >= 0; n -= Math.max(1, length / 60)) {
            add(seen, x.end(n) ? 1 : 0);
            add(seen, x.fault(0));
            add(seen, x.fault(1));
        }
    }

    private static void foreseen(HubTree x, List<Long> seen) {
        add(seen, x.last());
        for (int d = 0; d < 8; d++) {
            add(seen, x.when(d));
            add(seen, x.place(d));
            add(seen, x.order(d));
            add(seen, x.lost(d));
            add(seen, x.shares(d, 997));
        }
        for (int n : FAR) {
            add(seen, x.ahead(n, 0));
            add(seen, x.ahead(n, 1));
        }
        for (int script = 0; script < 4; script++) {
            add(seen, x.run(script, 0));
            add(seen, x.run(script, 1));
        }
    }

    /** Who is TRIED again, or PLUGGED, tells by its TURN how many were given. */
    private static void nextTurns(HubTree x, List<Long> seen) {
        for (int d = 0; d < 8; d++) {
            add(seen, x.again(d));
            add(seen, x.plug(d, 8, d % 4));
            add(seen, x.sleep(d));
        }
        add(seen, x.tick(9));
        devices(x, seen);
        add(seen, x.years(3, 5));
        wholes(x, seen);
    }

    /** Whether two objects show the same; the answer is said where they do not. */
    static void same(String what, List<Long> want, List<Long> got) {
        if (!want.equals(got)) {
            int i = 0;
            while (i < want.size() && i < got.size() && want.get(i).equals(got.get(i))) {
                i++;
            }
            Checks.holds(what + ", at the " + i + "th answer: " + want + " became " + got, false);
        } else {
            Checks.holds(what, true);
        }
    }
}
