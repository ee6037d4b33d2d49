import java.util.ArrayDeque;
import java.util.ArrayList;
import java.util.Deque;
import java.util.List;
import java.util.NoSuchElementException;

/**
 * The document once more, written as plainly as the Java library allows and without regard to what it
 * costs: objects for DEVICES, whole copies for what is UNDONE, kept or played apart. ModelTest holds
 * the program against it.
 */
final class Model {
    static final int AWAY = 0, SETTLING = 1, WAITING = 2, RESET = 3, FIRST = 4, SECOND = 5, CONFIGURED = 6, REFUSED = 7;

    static final class Dev {
        final int number;
        final int ports, speed, units, own, bytes;
        int error, what, timer, turn, fails, port = -1, runs = -1, address, why;
        boolean supply, asleep;
        /** null: AWAY, or right at the ROOT. */
        Dev hub;
        boolean atRoot;

        Dev(int number, int[] told) {
            this.number = number;
            ports = told[0];
            speed = told[1];
            units = told[2];
            own = told[3];
            bytes = told[4];
            error = told[5];
            supply = own == 1;
        }

        boolean awake() {
            return what == CONFIGURED && !asleep;
        }

        boolean busy() {
            return what == RESET || what == FIRST || what == SECOND;
        }

        int takes() {
            return supply || asleep ? 0 : units;
        }

        int depth() {
            return what == AWAY ? 0 : atRoot ? 1 : 1 + hub.depth();
        }

        boolean beneath(Dev other) {
            return hub != null && (hub == other || hub.beneath(other));
        }

        int given(int rootPower) {
            return atRoot ? rootPower : hub.gives();
        }

        int gives() {
            return supply ? 5 : 1;
        }

        int hubRuns() {
            return atRoot ? 2 : hub.runs;
        }

        /** 8: the ROOT. */
        int helper() {
            for (Dev h = hub; h != null; h = h.hub) {
                if (h.runs == 2) {
                    return h.number;
                }
            }
            return 8;
        }

        int[] tells() {
            int[] row = new int[8 + ports];
            row[0] = 8 + ports;
            row[1] = ports > 0 ? 9 : 1;
            row[2] = speed;
            row[3] = units;
            row[4] = error == 3 ? 7 : ports;
            row[5] = bytes;
            row[6] = own;
            for (int p = 0; p < ports; p++) {
                row[7 + p] = 10 + p;
            }
            int sum = 0;
            for (int b : row) {
                sum += b;
            }
            row[7 + ports] = Math.floorMod(-sum, 256);
            if (error == 1) {
                row[0] = 3;
            }
            if (error == 2) {
                row[7 + ports] = (row[7 + ports] + 1) % 256;
            }
            return row;
        }
    }

    record Entry(int sort, int number, int running) {}

    /** All that ACTS change. */
    static final class World {
        final int[] rules;
        final List<Dev> devs = new ArrayList<>();
        List<Entry> log = new ArrayList<>();
        int time, turns;

        World(int[] rules, List<int[]> told) {
            this.rules = rules;
            for (int[] t : told) {
                devs.add(new Dev(devs.size(), t));
            }
        }

        World copy() {
            List<int[]> told = new ArrayList<>();
            for (Dev d : devs) {
                told.add(new int[] {d.ports, d.speed, d.units, d.own, d.bytes, d.error});
            }
            World w = new World(rules, told);
            for (Dev d : devs) {
                Dev e = w.devs.get(d.number);
                e.what = d.what;
                e.timer = d.timer;
                e.turn = d.turn;
                e.fails = d.fails;
                e.port = d.port;
                e.runs = d.runs;
                e.address = d.address;
                e.why = d.why;
                e.supply = d.supply;
                e.asleep = d.asleep;
                e.atRoot = d.atRoot;
                e.hub = d.hub == null ? null : w.devs.get(d.hub.number);
            }
            w.log = new ArrayList<>(log);
            w.time = time;
            w.turns = turns;
            return w;
        }

        int running() {
            return Integer.bitCount(mask(CONFIGURED));
        }

        int mask(int what) {
            int bits = 0;
            for (Dev d : devs) {
                if (d.what == what) {
                    bits |= 1 << d.number;
                }
            }
            return bits;
        }

        /** null: any number. */
        Integer left(Dev h, Dev without) {
            if (h == null || h.supply) {
                return null;
            }
            int left = h.given(rules[4]) - h.units;
            for (Dev d : devs) {
                if (d.hub == h && d.what == CONFIGURED && d != without) {
                    left -= d.takes();
                }
            }
            return left;
        }

        boolean power(Dev d, int units) {
            Integer left = left(d.hub, d);
            return units <= d.given(rules[4]) && (left == null || units <= left);
        }

        int help(int hub) {
            int sum = 0;
            for (Dev d : devs) {
                if (d.awake() && d.runs < 2 && d.helper() == hub) {
                    sum += d.runs == 0 ? d.bytes * 8 : d.bytes * 2;
                }
            }
            return sum;
        }

        int bus() {
            int sum = 0;
            for (Dev d : devs) {
                if (d.awake()) {
                    sum += d.bytes;
                    if (d.runs < 2 && d.bytes > 0) {
                        sum += 4;
                    }
                }
            }
            return sum;
        }

        /** Whether HELP of all and BUS would be kept, were it CONFIGURED and awake. */
        boolean time(Dev real) {
            World w = copy();
            Dev d = w.devs.get(real.number);
            d.what = CONFIGURED;
            d.asleep = false;
            d.runs = d.hubRuns() == 2 ? d.speed : Math.min(d.speed, 1);
            for (int hub = 0; hub <= 8; hub++) {
                if (w.help(hub) > rules[6]) {
                    return false;
                }
            }
            return w.bus() <= rules[5];
        }

        int freeAddress() {
            for (int a = 1; a <= rules[7]; a++) {
                int address = a;
                if (devs.stream().noneMatch(d -> d.address == address)) {
                    return a;
                }
            }
            return 0;
        }

        void turned(Dev d, int what) {
            d.what = what;
            d.timer = 0;
            d.turn = 0;
            d.why = 0;
            d.address = 0;
            d.runs = -1;
            d.asleep = false;
            if (what == WAITING) {
                d.turn = ++turns;
            }
        }

        void refuse(Dev d, int why) {
            boolean was = d.what == CONFIGURED;
            turned(d, REFUSED);
            d.why = why;
            if (was) {
                for (Dev e : devs) {
                    if (e.beneath(d) && (e.busy() || e.what == CONFIGURED)) {
                        turned(e, WAITING);
                    }
                }
            }
        }

        void failed(Dev d) {
            d.fails++;
            if (d.fails == rules[3]) {
                refuse(d, 1);
            } else {
                turned(d, WAITING);
            }
        }

        void judge(Dev d) {
            int address = freeAddress();
            if (d.depth() > 4) {
                refuse(d, 4);
            } else if (address == 0) {
                refuse(d, 5);
            } else if (!power(d, d.takes())) {
                refuse(d, 2);
            } else if (!time(d)) {
                refuse(d, 3);
            } else {
                turned(d, CONFIGURED);
                d.address = address;
                d.runs = d.hubRuns() == 2 ? d.speed : Math.min(d.speed, 1);
            }
        }

        void tick() {
            int[] ahead = devs.stream().mapToInt(d -> d.what).toArray();
            for (Dev d : devs) {
                if (d.what == SETTLING && --d.timer == 0) {
                    turned(d, WAITING);
                }
            }
            for (Dev d : devs) {
                int[] told = d.tells();
                if (ahead[d.number] == RESET && --d.timer == 0) {
                    turned(d, FIRST);
                } else if (ahead[d.number] == FIRST) {
                    if (told[0] >= 8 && told[0] <= 12) {
                        turned(d, SECOND);
                    } else {
                        failed(d);
                    }
                } else if (ahead[d.number] == SECOND) {
                    int sum = 0;
                    for (int b : told) {
                        sum += b;
                    }
                    if (sum % 256 != 0 || told[0] != 8 + told[4]) {
                        failed(d);
                    } else {
                        judge(d);
                    }
                }
            }
            if (devs.stream().noneMatch(Dev::busy)) {
                Dev next = null;
                for (Dev d : devs) {
                    if (d.what == WAITING && (d.atRoot || d.hub.awake()) && (next == null || d.turn < next.turn)) {
                        next = d;
                    }
                }
                if (next != null) {
                    turned(next, RESET);
                    next.timer = rules[2];
                }
            }
            time++;
        }

        Dev inPort(int hub, int port) {
            for (Dev d : devs) {
                boolean there = hub == 8 ? d.atRoot : d.hub != null && d.hub.number == hub;
                if (there && d.port == port) {
                    return d;
                }
            }
            return null;
        }

        int portsOf(int hub) {
            return hub == 8 ? rules[0] : hub >= 0 && hub < devs.size() ? devs.get(hub).ports : 0;
        }

        boolean wakes(Dev d) {
            boolean open = d.atRoot || !d.hub.asleep;
            return open && power(d, d.supply ? 0 : d.units) && time(d);
        }

        /** -1, or what STATUS counts it as. */
        int act(int sort, int a, int b, int c) {
            if (sort == 2) {
                if (a < 1 || a > 60) {
                    return 1;
                }
                if (time + a > 9999) {
                    return 3;
                }
                for (int i = 0; i < a; i++) {
                    tick();
                }
                return done(sort, a);
            }
            if (a < 0 || a >= devs.size()) {
                return 0;
            }
            int bar = actOf(sort, devs.get(a), b, c);
            return bar >= 0 ? bar : done(sort, a);
        }

        int done(int sort, int number) {
            log.add(0, new Entry(sort, number, running()));
            while (log.size() > 60) {
                log.remove(60);
            }
            return -1;
        }

        int actOf(int sort, Dev d, int b, int c) {
            switch (sort) {
                case 0:
                    if (portsOf(b) == 0) {
                        return 0;
                    }
                    if (c < 0 || c >= portsOf(b)) {
                        return 1;
                    }
                    if (d.what != AWAY || b != 8 && devs.get(b).what == AWAY || inPort(b, c) != null) {
                        return 2;
                    }
                    turned(d, SETTLING);
                    d.timer = rules[1];
                    d.fails = 0;
                    d.atRoot = b == 8;
                    d.hub = b == 8 ? null : devs.get(b);
                    d.port = c;
                    return -1;
                case 1:
                    if (d.what == AWAY) {
                        return 2;
                    }
                    List<Dev> gone = new ArrayList<>(devs.stream().filter(e -> e == d || e.beneath(d)).toList());
                    for (Dev e : gone) {
                        turned(e, AWAY);
                        e.hub = null;
                        e.atRoot = false;
                        e.port = -1;
                    }
                    return -1;
                case 3:
                    if (d.own == 0) {
                        return 2;
                    }
                    toggle(d);
                    return -1;
                case 4:
                    if (b < 0 || b > 3) {
                        return 1;
                    }
                    if (d.error == b) {
                        return 2;
                    }
                    d.error = b;
                    return -1;
                case 5:
                    if (d.what != REFUSED) {
                        return 2;
                    }
                    turned(d, WAITING);
                    d.fails = 0;
                    return -1;
                default:
                    if (d.what != CONFIGURED) {
                        return 2;
                    }
                    boolean can = d.asleep ? wakes(d) : devs.stream().noneMatch(e -> e.hub == d && (e.busy() || e.awake()));
                    if (!can) {
                        return 2;
                    }
                    d.asleep = !d.asleep;
                    return -1;
            }
        }

        void toggle(Dev d) {
            d.supply = !d.supply;
            if (d.supply) {
                return;
            }
            if (d.what == CONFIGURED && !power(d, d.takes())) {
                refuse(d, 2);
                return;
            }
            while (true) {
                Dev worst = null;
                boolean over = false;
                for (Dev e : devs) {
                    if (e.hub == d && e.what == CONFIGURED) {
                        over |= e.takes() > d.gives();
                        worst = worst == null || e.takes() >= worst.takes() ? e : worst;
                    }
                }
                if (worst == null || !over && left(d, null) >= 0) {
                    return;
                }
                refuse(worst, 2);
            }
        }

        String shape() {
            StringBuilder s = new StringBuilder();
            for (Dev d : devs) {
                s.append(d.what).append(',').append(d.timer).append(',').append(d.turn).append(',').append(d.fails);
                s.append(',').append(d.runs).append(',').append(d.address).append(',').append(d.why).append(';');
            }
            return s.toString();
        }
    }

    private final StringBuilder tape = new StringBuilder();
    private final List<List<int[]>> scripts = new ArrayList<>();
    private final int[] status = new int[4];
    private World now;
    private World kept;
    private final Deque<World> past = new ArrayDeque<>();

    private int[] rulesRead;
    private List<int[]> toldRead;
    private List<int[]> stepsRead;

    int feed(int... numbers) {
        StringBuilder more = new StringBuilder();
        for (int n : numbers) {
            for (int k = 3; k >= 0; k--) {
                int b = n >> 8 * k & 255;
                if (b != 0) {
                    more.append((char) b);
                }
            }
        }
        if (tape.length() + more.length() > 240) {
            return -1;
        }
        return tape.append(more).length();
    }

    int end(int n) {
        if (n < 0 || n > tape.length()) {
            return 0;
        }
        tape.setLength(n);
        return 1;
    }

    /** Signs of the TAPE without blanks, each with the place where it stood; a number is one sign. */
    private record Sign(char c, int value, int digits, int at) {}

    /** Digits that stand together are one sign 0 (in a SCRIPT only those behind a t). */
    private List<Sign> signs(boolean script) {
        List<Sign> signs = new ArrayList<>();
        int i = 0;
        while (i < tape.length()) {
            char c = tape.charAt(i);
            boolean digit = c >= '0' && c <= '9';
            boolean joined = !script || !signs.isEmpty() && signs.get(signs.size() - 1).c == 't';
            if (c == ' ') {
                i++;
            } else if (digit && joined) {
                int from = i;
                int value = 0;
                while (i < tape.length() && Character.isDigit(tape.charAt(i))) {
                    value = Math.min(value * 10 + tape.charAt(i) - '0', 1000000);
                    i++;
                }
                signs.add(new Sign('0', value, i - from, from));
            } else {
                signs.add(new Sign(digit ? '1' : c == '0' || c == '1' ? '?' : c, digit ? c - '0' : 0, 1, i));
                i++;
            }
        }
        return signs;
    }

    private static final String[] LETTERS = {"ndrypmha", "nsuobe"};
    private static final int[][] LOW = {{1, 1, 1, 1, 1, 20, 10, 1}, {0, 0, 0, 0, 0, 0}};
    private static final int[][] HIGH = {{4, 9, 9, 5, 9, 200, 99, 9}, {4, 2, 9, 1, 99, 3}};
    private static final int[][] USUAL = {{4, 3, 2, 2, 5, 99, 60, 9}, {0, 1, 1, 0, 4, 0}};

    private int treeFault() {
        List<Sign> signs = signs(false);
        rulesRead = null;
        toldRead = new ArrayList<>();
        int[] row = null;
        boolean[] had = null;
        int sort = 0;
        // What may stand next: 'c' a CLAUSE, 'i' an ITEM or a ;, 'n' a number.
        char next = 'c';
        int item = 0;
        for (Sign s : signs) {
            if (next == 'c') {
                if (s.c == 's' && rulesRead == null || s.c == 'd' && toldRead.size() < 8) {
                    sort = s.c == 's' ? 0 : 1;
                    row = USUAL[sort].clone();
                    had = new boolean[8];
                    if (sort == 0) {
                        rulesRead = row;
                    } else {
                        toldRead.add(row);
                    }
                    next = 'i';
                } else {
                    return s.at;
                }
            } else if (next == 'i') {
                item = LETTERS[sort].indexOf(s.c);
                if (s.c == ';') {
                    next = 'c';
                } else if (item >= 0 && !had[item]) {
                    had[item] = true;
                    next = 'n';
                } else {
                    return s.at;
                }
            } else {
                if (s.c != '0') {
                    return s.at;
                }
                if (s.digits > 3) {
                    return s.at + 3;
                }
                if (s.value < LOW[sort][item] || s.value > HIGH[sort][item]) {
                    return s.at + s.digits - 1;
                }
                row[item] = s.value;
                next = 'i';
            }
        }
        return next != 'i' || toldRead.isEmpty() ? tape.length() : -1;
    }

    private int scriptFault() {
        List<Sign> signs = signs(true);
        stepsRead = new ArrayList<>();
        int need = 0;
        boolean within = false;
        int[] step = null;
        int had = 0;
        for (Sign s : signs) {
            if (!within) {
                int kind = "putoez".indexOf(s.c);
                if (kind < 0) {
                    return s.at;
                }
                step = new int[] {kind, -1, -1, -1};
                stepsRead.add(step);
                need = kind == 0 ? 3 : kind == 4 ? 2 : 1;
                had = 0;
                within = true;
            } else if (had < need) {
                char wanted = step[0] == 2 ? '0' : '1';
                if (s.c != wanted) {
                    return s.at;
                }
                if (s.digits > 2) {
                    return s.at + 2;
                }
                had++;
                step[had] = s.value;
            } else {
                if (s.c != ';' || stepsRead.size() == 16) {
                    return s.at;
                }
                within = false;
            }
        }
        return !within || had < need ? tape.length() : -1;
    }

    int fault(int sort) {
        return sort == 0 ? treeFault() : sort == 1 ? scriptFault() : -2;
    }

    int text(int sort) {
        if (sort < 0 || sort > 1 || fault(sort) != -1 || sort == 1 && scripts.size() == 4) {
            return -1;
        }
        tape.setLength(0);
        if (sort == 1) {
            scripts.add(stepsRead);
            return scripts.size() - 1;
        }
        now = new World(rulesRead == null ? USUAL[0].clone() : rulesRead, toldRead);
        kept = null;
        past.clear();
        return now.devs.size();
    }

    private Dev dev(int d) {
        return now != null && d >= 0 && d < now.devs.size() ? now.devs.get(d) : null;
    }

    int rule(int what) {
        return now != null && what >= 0 && what < 8 ? now.rules[what] : -1;
    }

    int told(int device, int what) {
        Dev d = dev(device);
        if (d == null || what < 0 || what > 5) {
            return -1;
        }
        return new int[] {d.ports, d.speed, d.units, d.own, d.bytes, d.error}[what];
    }

    int device(int device, int what) {
        Dev d = dev(device);
        if (d == null || what < 0 || what > 12) {
            throw new NoSuchElementException();
        }
        int hub = d.what == AWAY ? -1 : d.atRoot ? 8 : d.hub.number;
        return new int[] {
            d.what, d.what == SETTLING || d.what == RESET ? d.timer : 0, d.what == WAITING ? d.turn : 0, d.fails, hub,
            d.what == AWAY ? -1 : d.port, d.what == CONFIGURED ? d.runs : -1, d.address, d.why, d.supply ? 1 : 0,
            d.depth(), d.takes(), d.asleep ? 1 : 0,
        }[what];
    }

    int port(int hub, int port) {
        Dev d = now == null || port < 0 || port >= now.portsOf(hub) ? null : now.inPort(hub, port);
        return d == null ? -1 : d.number;
    }

    int hub(int hub, int what) {
        if (now == null || now.portsOf(hub) == 0 || what < 0 || what > 5) {
            return -1000000;
        }
        Dev h = hub == 8 ? null : now.devs.get(hub);
        int beneath = 0;
        int right = 0;
        for (Dev d : now.devs) {
            if (d.what != AWAY && (h == null || d.beneath(h))) {
                beneath |= 1 << d.number;
            }
            if (d.what != AWAY && d.hub == h) {
                right |= 1 << d.number;
            }
        }
        switch (what) {
            case 0: return beneath;
            case 1: return right;
            case 2: return h == null ? now.rules[4] : h.gives();
            case 3: return h == null || h.what == AWAY || h.supply ? -1000000 : now.left(h, null);
            case 4: return now.help(hub);
            default: return now.portsOf(hub) - Integer.bitCount(right);
        }
    }

    int octet(int device, int i) {
        Dev d = dev(device);
        return d == null || i < 0 || i >= 8 + d.ports ? -1 : d.tells()[i];
    }

    int at(int address) {
        if (now != null && address > 0) {
            for (Dev d : now.devs) {
                if (d.address == address) {
                    return d.number;
                }
            }
        }
        return -1;
    }

    int helper(int device) {
        Dev d = dev(device);
        return d == null || d.what != CONFIGURED || d.runs == 2 ? -1 : d.helper();
    }

    /** Does an ACT, to be UNDONE: whether it was. */
    private boolean act(boolean counted, int sort, int a, int b, int c) {
        World before = now == null ? null : now.copy();
        int bar = now == null ? 0 : now.act(sort, a, b, c);
        if (bar >= 0) {
            if (counted) {
                status[bar]++;
            }
            return false;
        }
        past.push(before);
        if (past.size() > 40) {
            past.removeLast();
        }
        return true;
    }

    int plug(int device, int hub, int port) {
        return act(true, 0, device, hub, port) ? dev(device).depth() : -1;
    }

    int unplug(int device) {
        int before = now == null ? 0 : Integer.bitCount(now.mask(AWAY));
        return act(true, 1, device, 0, 0) ? Integer.bitCount(now.mask(AWAY)) - before : -1;
    }

    int tick(int n) {
        return act(true, 2, n, 0, 0) ? now.running() : -1;
    }

    int supply(int device) {
        return act(true, 3, device, 0, 0) ? device(device, 9) : -1;
    }

    int error(int device, int error) {
        int was = dev(device) == null ? -1 : dev(device).error;
        return act(true, 4, device, error, 0) ? was : -1;
    }

    int again(int device) {
        return act(true, 5, device, 0, 0) ? device(device, 2) : -1;
    }

    int sleep(int device) {
        return act(true, 6, device, 0, 0) ? device(device, 12) : -1;
    }

    private long x;

    private int draw(int j) {
        x = x * 6364136223846793005L + 1442695040888963407L;
        return (int) ((x >>> 33) % j);
    }

    int years(int n, long seed) {
        if (now == null || n < 1 || n > 40) {
            return -1;
        }
        x = seed;
        int devices = now.devs.size();
        while (n-- > 0) {
            int lot = draw(8);
            if (lot < 3) {
                int d = draw(devices);
                int h = draw(devices + 1);
                int p = draw(4);
                act(false, 0, d, h == devices ? 8 : h, p);
            } else if (lot == 3) {
                act(false, 1, draw(devices), 0, 0);
            } else if (lot < 7) {
                act(false, 2, 1 + draw(9), 0, 0);
            } else {
                act(false, 3, draw(devices), 0, 0);
            }
        }
        return now.time;
    }

    int status(int what) {
        return what < 0 || what > 3 ? -1 : status[what];
    }

    int undo() {
        if (past.isEmpty()) {
            return -1;
        }
        now = past.pop();
        return past.size();
    }

    int log(int i, int what) {
        if (now == null || i < 0 || i >= now.log.size() || what < 0 || what > 2) {
            return -1000000;
        }
        Entry e = now.log.get(i);
        return what == 0 ? e.sort() : what == 1 ? e.number() : e.running();
    }

    private static int when(World w, int d) {
        for (int t = 0; t <= 200; t++) {
            if (w.devs.get(d).what == CONFIGURED) {
                return t;
            }
            if (w.time == 9999) {
                return -1;
            }
            w.tick();
        }
        return -1;
    }

    int when(int device) {
        Dev d = dev(device);
        return d == null || d.what == AWAY ? -1 : when(now.copy(), device);
    }

    int ahead(int n, int what) {
        if (now == null || n < 0 || n > 200 || now.time + n > 9999 || what < 0 || what > 1) {
            return -1;
        }
        World w = now.copy();
        while (n-- > 0) {
            w.tick();
        }
        return w.mask(what == 0 ? CONFIGURED : REFUSED);
    }

    int last() {
        if (now == null) {
            return -1;
        }
        // The last of many TICKS, past all bounds, that changes anything.
        World w = now.copy();
        int last = 0;
        for (int t = 1; t <= 1000; t++) {
            String before = w.shape();
            w.tick();
            if (!w.shape().equals(before)) {
                last = t;
            }
        }
        return last > 200 || now.time + last > 9999 ? -1 : last;
    }

    int place(int device) {
        Dev d = dev(device);
        if (d == null || d.what != AWAY) {
            return -1;
        }
        int best = -1;
        int soonest = 201;
        for (int at = 0; at < 90; at++) {
            World w = now.copy();
            if (w.act(0, device, at / 10, at % 10) == -1) {
                int t = when(w, device);
                if (t >= 0 && t < soonest) {
                    soonest = t;
                    best = at;
                }
            }
        }
        return best;
    }

    int order(int i) {
        if (now == null || i < 0) {
            return -1;
        }
        List<Integer> order = new ArrayList<>();
        World w = now.copy();
        for (int t = 0; t < 200 && w.time < 9999; t++) {
            int before = w.mask(CONFIGURED);
            w.tick();
            for (Dev d : w.devs) {
                if (d.what == CONFIGURED && (before >> d.number & 1) == 0) {
                    order.add(d.number);
                }
            }
        }
        return i < order.size() ? order.get(i) : -1;
    }

    int lost(int device) {
        Dev d = dev(device);
        if (d == null || !d.supply) {
            return -1;
        }
        World w = now.copy();
        w.toggle(w.devs.get(device));
        return now.mask(CONFIGURED) & ~w.mask(CONFIGURED);
    }

    int shares(int device, int c) {
        Dev d = dev(device);
        if (d == null || d.what != CONFIGURED || c < 0 || c > 999) {
            return -1;
        }
        int all = now.devs.stream().filter(e -> e.what == CONFIGURED).mapToInt(e -> e.bytes).sum();
        return all == 0 ? 0 : c * d.bytes / all;
    }

    int step(int script, int i, int what) {
        boolean there = script >= 0 && script < scripts.size() && i >= 0 && i < scripts.get(script).size();
        return there && what >= 0 && what < 4 ? scripts.get(script).get(i)[what] : -1000000;
    }

    private static int sortOf(int kind) {
        return kind == 5 ? 6 : kind;
    }

    int run(int script, int what) {
        if (now == null || script < 0 || script >= scripts.size() || what < 0 || what > 1) {
            return -1000000;
        }
        World w = now.copy();
        int done = 0;
        boolean all = true;
        for (int[] s : scripts.get(script)) {
            if (w.act(sortOf(s[0]), s[1], s[2], s[3]) >= 0) {
                all = false;
                break;
            }
            done++;
        }
        return what == 1 ? w.running() : all ? -1 : done;
    }

    int perform(int script) {
        if (now == null || script < 0 || script >= scripts.size()) {
            return -1;
        }
        int done = 0;
        for (int[] s : scripts.get(script)) {
            if (!act(false, sortOf(s[0]), s[1], s[2], s[3])) {
                break;
            }
            done++;
        }
        return done;
    }

    int all(int what) {
        if (now == null || what < 0 || what > 12) {
            return -1000000;
        }
        int busy = -1;
        int deepest = 0;
        int hubs = 0;
        int asleep = 0;
        int wakers = 0;
        int addresses = now.rules[7];
        for (Dev d : now.devs) {
            busy = d.busy() ? d.number : busy;
            deepest = Math.max(deepest, d.depth());
            hubs |= d.ports > 0 && d.supply ? 1 << d.number : 0;
            asleep |= d.asleep ? 1 << d.number : 0;
            wakers |= d.asleep && now.wakes(d) ? 1 << d.number : 0;
            addresses -= d.address > 0 ? 1 : 0;
        }
        return new int[] {
            now.time, now.mask(AWAY), now.mask(SETTLING), now.mask(WAITING), now.mask(CONFIGURED), now.mask(REFUSED),
            busy, now.bus(), deepest, addresses, hubs, asleep, wakers,
        }[what];
    }

    int image() {
        if (now == null) {
            return -1;
        }
        kept = now.copy();
        return kept.time;
    }

    int back() {
        if (kept == null) {
            return -1;
        }
        now = kept.copy();
        past.clear();
        return now.time;
    }

    int count(int what) {
        switch (what) {
            case 0: return now == null ? 0 : now.devs.size();
            case 1: return scripts.size();
            case 2: return tape.length();
            case 3: return now == null ? 0 : now.log.size();
            case 4: return past.size();
            default: return -1000000;
        }
    }
}
