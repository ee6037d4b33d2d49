import java.util.Arrays;
import java.util.NoSuchElementException;

/**
 * A tree of hubs into which devices are plugged, as ../shared/DOC.md tells it.
 *
 * <p>Words in capitals are the document's. Every row is made by the constructor and used again: no
 * call makes an object but the exception of {@link #device}.
 */
public final class HubTree {
    /** None; refused. */
    public static final int NONE = -1;

    /** Not told. */
    public static final int HIDDEN = -1000000;

    private static final int ROOT = 8;
    private static final int MOST_DEVICES = 8;
    private static final int MOST_TAPE = 240;
    private static final int MOST_SCRIPTS = 4;
    private static final int MOST_STEPS = 16;
    private static final int MOST_TICKS = 60;
    private static final int MOST_TIME = 9999;
    private static final int MOST_UNDONE = 40;
    private static final int MOST_LOGGED = 60;
    private static final int MOST_YEARS = 40;
    private static final int MOST_SHARED = 999;
    private static final int MOST_DEPTH = 4;
    private static final int MOST_ERROR = 3;
    private static final int FORESIGHT = 200;

    private static final int HIGH = 2;
    private static final int OWN_PORT_GIVES = 5;
    private static final int BARE_PORT_GIVES = 1;

    // What a DEVICE is.
    private static final int AWAY = 0;
    private static final int SETTLING = 1;
    private static final int WAITING = 2;
    private static final int IN_RESET = 3;
    private static final int AT_FIRST = 4;
    private static final int AT_SECOND = 5;
    private static final int CONFIGURED = 6;
    private static final int REFUSED = 7;

    // WHY one was REFUSED.
    private static final int BY_BYTES = 1;
    private static final int BY_POWER = 2;
    private static final int BY_TIME = 3;
    private static final int BY_DEPTH = 4;
    private static final int BY_ADDRESS = 5;

    // Sorts of ACTS, as the LOG tells them.
    private static final int PLUGGING = 0;
    private static final int UNPLUGGING = 1;
    private static final int TICKING = 2;
    private static final int SUPPLYING = 3;
    private static final int ERRING = 4;
    private static final int TRYING = 5;
    private static final int SLEEPING = 6;

    // What STATUS counts.
    private static final int NO_SUCH = 0;
    private static final int OUT_OF_BOUNDS = 1;
    private static final int CANNOT_BE = 2;
    private static final int NO_TIME = 3;

    // The RULES, in the order of rule(what).
    private static final int RULE_PORTS = 0;
    private static final int RULE_DEBOUNCE = 1;
    private static final int RULE_RESET = 2;
    private static final int RULE_TRIES = 3;
    private static final int RULE_POWER = 4;
    private static final int RULE_BUS = 5;
    private static final int RULE_HELP = 6;
    private static final int RULE_ADDRESSES = 7;
    private static final int RULES = 8;
    private static final String RULE_LETTERS = "ndrypmha";
    private static final int[] RULE_LOWS = {1, 1, 1, 1, 1, 20, 10, 1};
    private static final int[] RULE_HIGHS = {4, 9, 9, 5, 9, 200, 99, 9};
    private static final int[] RULE_USUAL = {4, 3, 2, 2, 5, 99, 60, 9};

    // What is told of a DEVICE, in the order of told(device, what).
    private static final int TOLD = 6;
    private static final String TOLD_LETTERS = "nsuobe";
    private static final int[] TOLD_LOWS = {0, 0, 0, 0, 0, 0};
    private static final int[] TOLD_HIGHS = {4, 2, 9, 1, 99, 3};
    private static final int[] TOLD_USUAL = {0, 1, 1, 0, 4, 0};

    // The kinds of STEPS, in the order of step(script, i, 0).
    private static final String STEP_LETTERS = "putoez";
    private static final int[] STEP_NUMBERS = {3, 1, 1, 1, 2, 1};
    private static final int[] STEP_SORTS = {
        PLUGGING, UNPLUGGING, TICKING, SUPPLYING, ERRING, SLEEPING
    };
    private static final int STEP_OF_TICKS = 2;
    private static final int STEP_WIDTH = 4;
    private static final int SCRIPT_WIDTH = MOST_STEPS * STEP_WIDTH;

    private final Tape tape = new Tape();
    private final Reader reader = new Reader(tape);
    private final Plan draft = new Plan();
    private final Plan plan = new Plan();
    private final Scripts scripts = new Scripts();
    private final Bus now = new Bus(plan);
    private final Bus apart = new Bus(plan);
    private final Foresight foresight = new Foresight(now, apart);
    private final Past past = new Past();
    private final Diary diary = new Diary();
    private final Bus kept = new Bus(plan);
    private final Diary keptDiary = new Diary();
    private final Draws draws = new Draws();
    private final int[] refusals = new int[NO_TIME + 1];
    private boolean hasImage = false;

    /** Promise 1: no TREE. */
    public HubTree() {}

    /** Promise 2. */
    public int feed(int a, int b, int c, int d, int e) {
        int more = Tape.bytesIn(a) + Tape.bytesIn(b) + Tape.bytesIn(c) + Tape.bytesIn(d) + Tape.bytesIn(e);
        if (tape.length + more > MOST_TAPE) {
            return NONE;
        }
        tape.add(a);
        tape.add(b);
        tape.add(c);
        tape.add(d);
        tape.add(e);
        return tape.length;
    }

    /** Promise 3. */
    public boolean end(int n) {
        if (n < 0 || n > tape.length) {
            return false;
        }
        tape.length = n;
        return true;
    }

    /** Promise 4. */
    public int fault(int sort) {
        if (sort == 0) {
            return reader.readTree(draft);
        }
        return sort == 1 ? reader.readScript(scripts) : -2;
    }

    /** Promise 5. */
    public int text(int sort) {
        if (sort == 0) {
            return takeTree();
        }
        return sort == 1 ? takeScript() : NONE;
    }

    private int takeTree() {
        if (reader.readTree(draft) != NONE) {
            return NONE;
        }
        tape.length = 0;
        plan.copyFrom(draft);
        now.renew();
        past.forget();
        diary.total = 0;
        hasImage = false;
        return plan.devices;
    }

    private int takeScript() {
        if (scripts.held >= MOST_SCRIPTS || reader.readScript(scripts) != NONE) {
            return NONE;
        }
        tape.length = 0;
        return scripts.keepDraft();
    }

    /** Promise 6. */
    public int rule(int what) {
        return plan.isTold() && what >= 0 && what < RULES ? plan.rules[what] : NONE;
    }

    /** Promise 7. */
    public int told(int device, int what) {
        if (!plan.has(device) || what < 0 || what >= TOLD) {
            return NONE;
        }
        return what == TOLD - 1 ? now.row[Bus.ERROR + device] : plan.row[what * MOST_DEVICES + device];
    }

    /** Promise 8. */
    public int device(int device, int what) throws NoSuchElementException {
        if (!plan.has(device) || what < 0 || what > 12) {
            throw new NoSuchElementException("no such device, or nothing such is told of it");
        }
        switch (what) {
            case 0: return now.row[Bus.WHAT + device];
            case 1: return now.row[Bus.TIMER + device];
            case 2: return now.row[Bus.TURN + device];
            case 3: return now.row[Bus.FAILS + device];
            case 4: return now.row[Bus.HUB + device];
            case 5: return now.row[Bus.PORT + device];
            case 6: return now.row[Bus.RUNS + device];
            case 7: return now.row[Bus.ADDRESS + device];
            case 8: return now.row[Bus.WHY + device];
            case 9: return now.row[Bus.SUPPLY + device];
            case 10: return now.depthOf(device);
            case 11: return now.takesOf(device);
            default: return now.row[Bus.ASLEEP + device];
        }
    }

    /** Promise 9. */
    public int port(int hub, int port) {
        return plan.hasPort(hub, port) ? now.pluggedInto(hub, port) : NONE;
    }

    /** Promise 10. */
    public int hub(int hub, int what) {
        if (!plan.isHub(hub)) {
            return HIDDEN;
        }
        switch (what) {
            case 0: return now.beneath(hub);
            case 1: return now.rightAt(hub);
            case 2: return now.portGives(hub);
            case 3: return now.isBoundless(hub) || now.is(hub, AWAY) ? HIDDEN : now.leftOf(hub, NONE);
            case 4: return now.helpOf(hub);
            case 5: return plan.portsOf(hub) - Integer.bitCount(now.rightAt(hub));
            default: return HIDDEN;
        }
    }

    /** Promise 11. */
    public int octet(int device, int i) {
        return plan.has(device) && i >= 0 && i < plan.lengthOf(device) ? now.byteOf(device, i) : NONE;
    }

    /** Promise 12. */
    public int at(int address) {
        return address < 1 ? NONE : now.withAddress(address);
    }

    /** Promise 13. */
    public int helper(int device) {
        if (!plan.has(device) || !now.is(device, CONFIGURED) || now.row[Bus.RUNS + device] >= HIGH) {
            return NONE;
        }
        return now.helperAbove(device);
    }

    /** Promise 14. */
    public int plug(int device, int hub, int port) {
        return isDone(attempt(now, true, PLUGGING, device, hub, port)) ? now.depthOf(device) : NONE;
    }

    /** Promise 15. */
    public int unplug(int device) {
        int before = Integer.bitCount(now.allThatAre(AWAY));
        if (!isDone(attempt(now, true, UNPLUGGING, device, NONE, NONE))) {
            return NONE;
        }
        return Integer.bitCount(now.allThatAre(AWAY)) - before;
    }

    /** Promise 16. */
    public int tick(int n) {
        return isDone(attempt(now, true, TICKING, n, NONE, NONE)) ? now.running() : NONE;
    }

    /** Promise 17. */
    public int supply(int device) {
        boolean done = isDone(attempt(now, true, SUPPLYING, device, NONE, NONE));
        return done && plan.has(device) ? now.row[Bus.SUPPLY + device] : NONE;
    }

    /** Promise 18. */
    public int error(int device, int error) {
        int was = plan.has(device) ? now.row[Bus.ERROR + device] : NONE;
        return isDone(attempt(now, true, ERRING, device, error, NONE)) ? was : NONE;
    }

    /** Promise 19. */
    public int again(int device) {
        boolean done = isDone(attempt(now, true, TRYING, device, NONE, NONE));
        return done && plan.has(device) ? now.row[Bus.TURN + device] : NONE;
    }

    /** Promise 20. */
    public int sleep(int device) {
        boolean done = isDone(attempt(now, true, SLEEPING, device, NONE, NONE));
        return done && plan.has(device) ? now.row[Bus.ASLEEP + device] : NONE;
    }

    /** Promise 21. */
    public int years(int n, long seed) {
        if (!plan.isTold() || n < 1 || n > MOST_YEARS) {
            return NONE;
        }
        draws.x = seed;
        for (int i = 0; i < n; i++) {
            int lot = draws.next(8);
            if (lot <= 2) {
                int device = draws.next(plan.devices);
                int hub = draws.next(plan.devices + 1);
                attempt(now, true, PLUGGING, device, hub == plan.devices ? ROOT : hub, draws.next(4));
            } else if (lot == 3) {
                attempt(now, true, UNPLUGGING, draws.next(plan.devices), NONE, NONE);
            } else if (lot <= 6) {
                attempt(now, true, TICKING, draws.next(9) + 1, NONE, NONE);
            } else {
                attempt(now, true, SUPPLYING, draws.next(plan.devices), NONE, NONE);
            }
        }
        return now.row[Bus.TIME];
    }

    /** Promise 22. */
    public int status(int what) {
        return what >= 0 && what < refusals.length ? refusals[what] : NONE;
    }

    /** Promise 23. */
    public int undo() {
        if (past.held == 0) {
            return NONE;
        }
        past.restore(now);
        diary.forgetLatest();
        return past.held;
    }

    /** Promise 24. */
    public int log(int i, int what) {
        if (i < 0 || i >= diary.shown() || what < 0 || what >= Diary.WIDTH) {
            return HIDDEN;
        }
        return diary.read(i, what);
    }

    /** Promise 25. */
    public int when(int device) {
        return plan.has(device) && !now.is(device, AWAY) ? foresight.ticksTillRunning(device) : NONE;
    }

    /** Promise 26. */
    public int ahead(int n, int what) {
        boolean bounded = plan.isTold() && n >= 0 && n <= FORESIGHT && (what == 0 || what == 1);
        if (!bounded || now.row[Bus.TIME] + n > MOST_TIME) {
            return NONE;
        }
        return foresight.allBehind(n, what == 0 ? CONFIGURED : REFUSED);
    }

    /** Promise 27. */
    public int last() {
        return plan.isTold() ? foresight.ticksTillStill() : NONE;
    }

    /** Promise 28. */
    public int place(int device) {
        return plan.has(device) && now.is(device, AWAY) ? foresight.bestPort(device) : NONE;
    }

    /** Promise 29. */
    public int order(int i) {
        return plan.isTold() && i >= 0 && i < MOST_DEVICES ? foresight.nextToRun(i) : NONE;
    }

    /** Promise 30. */
    public int lost(int device) {
        boolean on = plan.has(device) && now.row[Bus.SUPPLY + device] == 1;
        return on ? foresight.lostWithout(device) : NONE;
    }

    /** Promise 31. */
    public int shares(int device, int c) {
        if (!plan.has(device) || !now.is(device, CONFIGURED) || c < 0 || c > MOST_SHARED) {
            return NONE;
        }
        int whole = 0;
        for (int d = 0; d < plan.devices; d++) {
            whole += now.is(d, CONFIGURED) ? plan.row[Plan.BYTES + d] : 0;
        }
        return whole == 0 ? 0 : c * plan.row[Plan.BYTES + device] / whole;
    }

    /** Promise 32. */
    public int step(int script, int i, int what) {
        if (!scripts.has(script) || i < 0 || i >= scripts.steps[script] || what < 0 || what >= STEP_WIDTH) {
            return HIDDEN;
        }
        return scripts.read(script, i, what);
    }

    /** Promise 33. */
    public int run(int script, int what) {
        if (!plan.isTold() || !scripts.has(script) || (what != 0 && what != 1)) {
            return HIDDEN;
        }
        apart.copyFrom(now);
        int done = stepsDone(apart, false, script);
        if (what == 1) {
            return apart.running();
        }
        return done == scripts.steps[script] ? NONE : done;
    }

    /** Promise 34. */
    public int perform(int script) {
        return plan.isTold() && scripts.has(script) ? stepsDone(now, true, script) : NONE;
    }

    private int stepsDone(Bus bus, boolean forGood, int script) {
        for (int i = 0; i < scripts.steps[script]; i++) {
            int sort = scripts.sortOf(script, i);
            int a = scripts.read(script, i, 1);
            int b = scripts.read(script, i, 2);
            int c = scripts.read(script, i, 3);
            if (attempt(bus, forGood, sort, a, b, c) != NONE) {
                return i;
            }
        }
        return scripts.steps[script];
    }

    /** Promise 35. */
    public int all(int what) {
        if (!plan.isTold()) {
            return HIDDEN;
        }
        switch (what) {
            case 0: return now.row[Bus.TIME];
            case 1: return now.allThatAre(AWAY);
            case 2: return now.allThatAre(SETTLING);
            case 3: return now.allThatAre(WAITING);
            case 4: return now.allThatAre(CONFIGURED);
            case 5: return now.allThatAre(REFUSED);
            case 6: return now.standing();
            case 7: return now.busUsed();
            case 8: return now.greatestDepth();
            case 9: return now.freeAddresses();
            case 10: return now.suppliedHubs();
            case 11: return now.sleepers();
            case 12: return now.wakers();
            default: return HIDDEN;
        }
    }

    /** Promise 36. */
    public int image() {
        if (!plan.isTold()) {
            return NONE;
        }
        kept.copyFrom(now);
        keptDiary.copyFrom(diary);
        hasImage = true;
        return now.row[Bus.TIME];
    }

    /** Promise 37. */
    public int back() {
        if (!hasImage) {
            return NONE;
        }
        now.copyFrom(kept);
        diary.copyFrom(keptDiary);
        past.forget();
        return now.row[Bus.TIME];
    }

    /** Promise 38. */
    public int count(int what) {
        switch (what) {
            case 0: return plan.devices;
            case 1: return scripts.held;
            case 2: return tape.length;
            case 3: return diary.shown();
            case 4: return past.held;
            default: return HIDDEN;
        }
    }

    /** Does an ACT, if it can be: NONE then, else what STATUS counts it as. */
    private int attempt(Bus bus, boolean forGood, int sort, int a, int b, int c) {
        int bar = bus.barOf(sort, a, b, c);
        if (bar != NONE) {
            return bar;
        }
        if (forGood) {
            past.keep(bus);
        }
        switch (sort) {
            case PLUGGING: bus.putIn(a, b, c); break;
            case UNPLUGGING: bus.pullOut(a); break;
            case TICKING:
                for (int i = 0; i < a; i++) {
                    bus.passTick();
                }
                break;
            case SUPPLYING: bus.switchSupply(a); break;
            case ERRING: bus.row[Bus.ERROR + a] = b; break;
            case TRYING: bus.queueAfresh(a); break;
            default: bus.row[Bus.ASLEEP + a] = 1 - bus.row[Bus.ASLEEP + a]; break;
        }
        if (forGood) {
            diary.write(sort, a, bus.running());
        }
        return NONE;
    }

    /** Whether an ACT by hand was done; if it was refused, STATUS counts it. */
    private boolean isDone(int bar) {
        if (bar >= 0 && bar < refusals.length) {
            refusals[bar]++;
        }
        return bar == NONE;
    }

    /** The TAPE: the bytes of the next TEXT. */
    private static final class Tape {
        final char[] bytes = new char[MOST_TAPE];
        int length = 0;

        static int bytesIn(int number) {
            int bytes = 0;
            for (int shift = 24; shift >= 0; shift -= 8) {
                bytes += (number >>> shift & 255) == 0 ? 0 : 1;
            }
            return bytes;
        }

        void add(int number) {
            for (int shift = 24; shift >= 0; shift -= 8) {
                int next = number >>> shift & 255;
                if (next != 0 && length < bytes.length) {
                    bytes[length] = (char) next;
                    length++;
                }
            }
        }
    }

    /** The TREE as it was told. */
    private static final class Plan {
        // Where in the row each DEVICE's share of what is told begins, in the order of told().
        static final int PORTS = 0;
        static final int SPEED = 8;
        static final int UNITS = 16;
        static final int OWN = 24;
        static final int BYTES = 32;
        static final int ERROR = 40;
        static final int SIZE = 48;

        final int[] rules = new int[RULES];
        final int[] row = new int[SIZE];
        int devices = 0;

        void clear() {
            System.arraycopy(RULE_USUAL, 0, rules, 0, RULES);
            devices = 0;
        }

        void addDevice() {
            if (devices < MOST_DEVICES) {
                for (int what = 0; what < TOLD; what++) {
                    row[what * MOST_DEVICES + devices] = TOLD_USUAL[what];
                }
                devices++;
            }
        }

        void copyFrom(Plan other) {
            System.arraycopy(other.rules, 0, rules, 0, RULES);
            System.arraycopy(other.row, 0, row, 0, SIZE);
            devices = other.devices;
        }

        boolean isTold() {
            return devices > 0;
        }

        boolean has(int device) {
            return device >= 0 && device < devices;
        }

        /** How many PORTS; 0 of what is no HUB. */
        int portsOf(int hub) {
            if (hub == ROOT && devices > 0) {
                return rules[RULE_PORTS];
            }
            return hub >= 0 && hub < devices ? row[PORTS + hub] : 0;
        }

        boolean isHub(int hub) {
            return portsOf(hub) > 0;
        }

        boolean hasPort(int hub, int port) {
            return port >= 0 && port < portsOf(hub);
        }

        /** How many BYTES a DEVICE tells of itself. */
        int lengthOf(int device) {
            return 8 + row[PORTS + device];
        }
    }

    /** The SCRIPTS: of each STEP its kind and three numbers, NONE where there are fewer. */
    private static final class Scripts {
        final int[] rows = new int[MOST_SCRIPTS * SCRIPT_WIDTH];
        final int[] steps = new int[MOST_SCRIPTS];
        final int[] draft = new int[SCRIPT_WIDTH];
        int draftSteps = 0;
        int held = 0;

        /** Takes the draft as a SCRIPT: its number. */
        int keepDraft() {
            if (held >= MOST_SCRIPTS) {
                return NONE;
            }
            System.arraycopy(draft, 0, rows, held * SCRIPT_WIDTH, SCRIPT_WIDTH);
            steps[held] = draftSteps;
            held++;
            return held - 1;
        }

        boolean has(int script) {
            return script >= 0 && script < held;
        }

        int read(int script, int i, int what) {
            return rows[script * SCRIPT_WIDTH + i * STEP_WIDTH + what];
        }

        int sortOf(int script, int i) {
            int kind = read(script, i, 0);
            return kind >= 0 && kind < STEP_SORTS.length ? STEP_SORTS[kind] : NONE;
        }
    }

    /** Reads the TAPE as a TREE or a SCRIPT into a draft, and tells its FAULT. */
    private static final class Reader {
        private final Tape tape;
        private int at = 0;
        private int value = 0;

        Reader(Tape tape) {
            this.tape = tape;
        }

        int readTree(Plan draft) {
            draft.clear();
            at = 0;
            boolean ruled = false;
            for (int clause = 0; clause < MOST_TAPE; clause++) {
                skipBlanks();
                int fault;
                if (stands('s') && !ruled) {
                    ruled = true;
                    fault = readItems(RULE_LETTERS, RULE_LOWS, RULE_HIGHS, draft.rules, 0, 1);
                } else if (stands('d') && draft.devices < MOST_DEVICES) {
                    draft.addDevice();
                    int from = draft.devices - 1;
                    fault = readItems(TOLD_LETTERS, TOLD_LOWS, TOLD_HIGHS, draft.row, from, MOST_DEVICES);
                } else {
                    return at;
                }
                if (fault != NONE) {
                    return fault;
                }
                if (at >= tape.length) {
                    return draft.isTold() ? NONE : at;
                }
                at++;
            }
            return at;
        }

        /**
         * Reads a CLAUSE behind its letter, up to the ; or the end: its FAULT, or NONE. The number of
         * the k-th letter is put k strides behind from.
         */
        private int readItems(String letters, int[] lows, int[] highs, int[] into, int from, int stride) {
            int seen = 0;
            at++;
            for (int k = 0; k <= letters.length(); k++) {
                skipBlanks();
                if (at >= tape.length || stands(';')) {
                    return NONE;
                }
                int item = letters.indexOf(tape.bytes[at]);
                if (item < 0 || (seen >> item & 1) == 1) {
                    return at;
                }
                seen |= 1 << item;
                at++;
                skipBlanks();
                if (!readNumber(3)) {
                    return at;
                }
                if (value < lows[item] || value > highs[item]) {
                    return at - 1;
                }
                into[from + item * stride] = value;
            }
            return at;
        }

        int readScript(Scripts scripts) {
            Arrays.fill(scripts.draft, NONE);
            at = 0;
            for (int step = 0; step < MOST_STEPS; step++) {
                skipBlanks();
                int kind = at < tape.length ? STEP_LETTERS.indexOf(tape.bytes[at]) : NONE;
                if (kind < 0) {
                    return at;
                }
                at++;
                if (!readStep(kind, scripts.draft, step * STEP_WIDTH)) {
                    return at;
                }
                scripts.draftSteps = step + 1;
                skipBlanks();
                if (at >= tape.length) {
                    return NONE;
                }
                // Behind the last STEP there may be, the ; itself is what can't go on.
                if (!stands(';') || step == MOST_STEPS - 1) {
                    return at;
                }
                at++;
            }
            return at;
        }

        private boolean readStep(int kind, int[] into, int from) {
            into[from] = kind;
            for (int k = 1; k <= STEP_NUMBERS[kind]; k++) {
                skipBlanks();
                if (kind == STEP_OF_TICKS ? !readNumber(2) : !readDigit()) {
                    return false;
                }
                into[from + k] = value;
            }
            return true;
        }

        private void skipBlanks() {
            while (at < tape.length && tape.bytes[at] == ' ') {
                at++;
            }
        }

        private boolean stands(char sign) {
            return at < tape.length && tape.bytes[at] == sign;
        }

        private boolean standsDigit() {
            return at < tape.length && tape.bytes[at] >= '0' && tape.bytes[at] <= '9';
        }

        private boolean readDigit() {
            if (!standsDigit()) {
                return false;
            }
            value = tape.bytes[at] - '0';
            at++;
            return true;
        }

        /** Reads one to so many digits; false where there is none, or one too many. */
        private boolean readNumber(int digits) {
            int number = 0;
            int read = 0;
            while (read < digits && readDigit()) {
                number = number * 10 + value;
                read++;
            }
            value = number;
            return read > 0 && !standsDigit();
        }
    }

    /** A draw after a draw from a seed. */
    private static final class Draws {
        long x = 0;

        int next(int j) {
            x = x * 6364136223846793005L + 1442695040888963407L;
            return j < 1 ? 0 : (int) ((x >>> 33) % j);
        }
    }

    /** The LOG. Those that fell out of it are kept as long as UNDOING can bring them back. */
    private static final class Diary {
        static final int WIDTH = 3;
        private static final int KEPT = MOST_LOGGED + MOST_UNDONE;

        private final int[] rows = new int[KEPT * WIDTH];
        int total = 0;

        int shown() {
            return Math.min(total, MOST_LOGGED);
        }

        void write(int sort, int number, int running) {
            int from = total % KEPT * WIDTH;
            rows[from] = sort;
            rows[from + 1] = number;
            rows[from + 2] = running;
            total++;
        }

        /** Of the i-th latest, i below shown(). */
        int read(int i, int what) {
            return rows[(total - 1 - i) % KEPT * WIDTH + what];
        }

        void forgetLatest() {
            total = Math.max(total - 1, 0);
        }

        void copyFrom(Diary other) {
            System.arraycopy(other.rows, 0, rows, 0, rows.length);
            total = other.total;
        }
    }

    /** How it was ahead of each of the latest ACTS. */
    private static final class Past {
        private final int[] rows = new int[MOST_UNDONE * Bus.SIZE];
        private int next = 0;
        int held = 0;

        void keep(Bus bus) {
            System.arraycopy(bus.row, 0, rows, next * Bus.SIZE, Bus.SIZE);
            next = (next + 1) % MOST_UNDONE;
            held = Math.min(held + 1, MOST_UNDONE);
        }

        void restore(Bus bus) {
            if (held > 0) {
                next = (next + MOST_UNDONE - 1) % MOST_UNDONE;
                held--;
                System.arraycopy(rows, next * Bus.SIZE, bus.row, 0, Bus.SIZE);
            }
        }

        void forget() {
            held = 0;
        }
    }

    /** What would come, from as it is now, played on a bus apart. */
    private static final class Foresight {
        private final Bus now;
        private final Bus apart;

        Foresight(Bus now, Bus apart) {
            this.now = now;
            this.apart = apart;
        }

        int ticksTillRunning(int device) {
            apart.copyFrom(now);
            return playTillRunning(device, FORESIGHT);
        }

        /** Plays on: behind how many TICKS one is CONFIGURED; NONE: not within so many. */
        private int playTillRunning(int device, int within) {
            for (int ticks = 0; ticks <= within; ticks++) {
                if (apart.is(device, CONFIGURED)) {
                    return ticks;
                }
                if (apart.isOver() || apart.isStill()) {
                    return NONE;
                }
                apart.passTick();
            }
            return NONE;
        }

        int allBehind(int ticks, int what) {
            apart.copyFrom(now);
            for (int i = 0; i < ticks; i++) {
                apart.passTick();
            }
            return apart.allThatAre(what);
        }

        int ticksTillStill() {
            apart.copyFrom(now);
            for (int ticks = 0; ticks <= FORESIGHT; ticks++) {
                if (apart.isStill()) {
                    return ticks;
                }
                if (apart.isOver()) {
                    return NONE;
                }
                apart.passTick();
            }
            return NONE;
        }

        int bestPort(int device) {
            int best = NONE;
            int within = FORESIGHT;
            for (int hub = 0; hub <= ROOT; hub++) {
                // No free PORT of a HUB is quicker than another: the least one stands for all.
                int port = now.firstFreePort(hub);
                if (port != NONE) {
                    apart.copyFrom(now);
                    apart.putIn(device, hub, port);
                    int ticks = playTillRunning(device, within);
                    if (ticks != NONE) {
                        best = 10 * hub + port;
                        within = ticks - 1;
                    }
                }
            }
            return best;
        }

        int nextToRun(int i) {
            apart.copyFrom(now);
            int found = 0;
            for (int ticks = 0; ticks < FORESIGHT && !apart.isOver() && !apart.isStill(); ticks++) {
                int before = apart.allThatAre(CONFIGURED);
                apart.passTick();
                int more = apart.allThatAre(CONFIGURED) & ~before;
                // Only one stands at the default address: no TICK makes two CONFIGURED.
                if (more != 0 && found == i) {
                    return Integer.numberOfTrailingZeros(more);
                }
                found += more != 0 ? 1 : 0;
            }
            return NONE;
        }

        int lostWithout(int device) {
            apart.copyFrom(now);
            apart.switchSupply(device);
            return now.allThatAre(CONFIGURED) & ~apart.allThatAre(CONFIGURED);
        }
    }

    /** All that ACTS change but the LOG: what each DEVICE is, TIME, and the last TURN given. */
    private static final class Bus {
        static final int WHAT = 0;
        static final int TIMER = 8;
        static final int TURN = 16;
        static final int FAILS = 24;
        static final int HUB = 32;
        static final int PORT = 40;
        static final int RUNS = 48;
        static final int ADDRESS = 56;
        static final int WHY = 64;
        static final int SUPPLY = 72;
        static final int ERROR = 80;
        static final int ASLEEP = 88;
        static final int TIME = 96;
        static final int TURNS = 97;
        static final int SIZE = 98;

        final int[] row = new int[SIZE];
        private final Plan plan;

        Bus(Plan plan) {
            this.plan = plan;
        }

        void renew() {
            Arrays.fill(row, 0);
            for (int d = 0; d < plan.devices; d++) {
                leave(d);
                row[SUPPLY + d] = plan.row[Plan.OWN + d];
                row[ERROR + d] = plan.row[Plan.ERROR + d];
            }
        }

        void copyFrom(Bus other) {
            System.arraycopy(other.row, 0, row, 0, SIZE);
        }

        // What can be asked.

        boolean is(int d, int what) {
            return d >= 0 && d < MOST_DEVICES && row[WHAT + d] == what;
        }

        private boolean isAsleep(int d) {
            return d >= 0 && d < MOST_DEVICES && row[ASLEEP + d] == 1;
        }

        private boolean isAwake(int d) {
            return row[WHAT + d] == CONFIGURED && row[ASLEEP + d] == 0;
        }

        /** Whether one is in RESET or at a bite. */
        private boolean isStanding(int d) {
            return row[WHAT + d] >= IN_RESET && row[WHAT + d] <= AT_SECOND;
        }

        boolean isOver() {
            return row[TIME] >= MOST_TIME;
        }

        /** Whether no TICK would change anything but TIME. */
        boolean isStill() {
            return allThatAre(SETTLING) == 0 && standing() == NONE && firstInLine() == NONE;
        }

        int allThatAre(int what) {
            int bits = 0;
            for (int d = 0; d < plan.devices; d++) {
                bits |= row[WHAT + d] == what ? 1 << d : 0;
            }
            return bits;
        }

        /** How many are CONFIGURED. */
        int running() {
            return Integer.bitCount(allThatAre(CONFIGURED));
        }

        /** Who is in RESET or at a bite. */
        int standing() {
            for (int d = 0; d < plan.devices; d++) {
                if (isStanding(d)) {
                    return d;
                }
            }
            return NONE;
        }

        int pluggedInto(int hub, int port) {
            for (int d = 0; d < plan.devices; d++) {
                if (row[HUB + d] == hub && row[PORT + d] == port) {
                    return d;
                }
            }
            return NONE;
        }

        /** The least free PORT of the ROOT or of a HUB that is not AWAY. */
        int firstFreePort(int hub) {
            if (is(hub, AWAY)) {
                return NONE;
            }
            for (int port = 0; port < plan.portsOf(hub); port++) {
                if (pluggedInto(hub, port) == NONE) {
                    return port;
                }
            }
            return NONE;
        }

        int rightAt(int hub) {
            int bits = 0;
            for (int d = 0; d < plan.devices; d++) {
                bits |= row[HUB + d] == hub ? 1 << d : 0;
            }
            return bits;
        }

        int beneath(int hub) {
            int bits = 0;
            for (int d = 0; d < plan.devices; d++) {
                bits |= hangsOn(d, hub) ? 1 << d : 0;
            }
            return bits;
        }

        private boolean hangsOn(int d, int hub) {
            int above = row[HUB + d];
            for (int k = 0; k < MOST_DEVICES && above != hub && above >= 0 && above < ROOT; k++) {
                above = row[HUB + above];
            }
            return above == hub;
        }

        int depthOf(int d) {
            int depth = 0;
            int above = d;
            for (int k = 0; k < MOST_DEVICES && above >= 0 && above < ROOT; k++) {
                above = row[HUB + above];
                depth += above == NONE ? 0 : 1;
            }
            return depth;
        }

        int greatestDepth() {
            int greatest = 0;
            for (int d = 0; d < plan.devices; d++) {
                greatest = Math.max(greatest, depthOf(d));
            }
            return greatest;
        }

        int withAddress(int address) {
            for (int d = 0; d < plan.devices; d++) {
                if (row[ADDRESS + d] == address) {
                    return d;
                }
            }
            return NONE;
        }

        /** The least free ADDRESS, or NONE. */
        private int freeAddress() {
            for (int address = 1; address <= plan.rules[RULE_ADDRESSES]; address++) {
                if (withAddress(address) == NONE) {
                    return address;
                }
            }
            return NONE;
        }

        int freeAddresses() {
            return plan.rules[RULE_ADDRESSES] - running();
        }

        int suppliedHubs() {
            int bits = 0;
            for (int d = 0; d < plan.devices; d++) {
                bits |= row[SUPPLY + d] == 1 && plan.isHub(d) ? 1 << d : 0;
            }
            return bits;
        }

        int sleepers() {
            int bits = 0;
            for (int d = 0; d < plan.devices; d++) {
                bits |= row[ASLEEP + d] == 1 ? 1 << d : 0;
            }
            return bits;
        }

        int wakers() {
            int bits = 0;
            for (int d = 0; d < plan.devices; d++) {
                bits |= row[ASLEEP + d] == 1 && canWake(d) ? 1 << d : 0;
            }
            return bits;
        }

        // Power.

        int takesOf(int d) {
            return row[SUPPLY + d] == 1 || row[ASLEEP + d] == 1 ? 0 : plan.row[Plan.UNITS + d];
        }

        int portGives(int hub) {
            if (hub == ROOT) {
                return plan.rules[RULE_POWER];
            }
            boolean supplied = hub >= 0 && hub < ROOT && row[SUPPLY + hub] == 1;
            return supplied ? OWN_PORT_GIVES : BARE_PORT_GIVES;
        }

        /** Whether LEFT of a HUB is any number. */
        boolean isBoundless(int hub) {
            return hub == ROOT || hub >= 0 && hub < ROOT && row[SUPPLY + hub] == 1;
        }

        /** LEFT of a HUB other than the ROOT, one that is right at it left out (NONE: nobody). */
        int leftOf(int hub, int without) {
            if (hub < 0 || hub >= ROOT) {
                return 0;
            }
            int left = portGives(row[HUB + hub]) - plan.row[Plan.UNITS + hub];
            for (int d = 0; d < plan.devices; d++) {
                if (d != without && row[HUB + d] == hub && row[WHAT + d] == CONFIGURED) {
                    left -= takesOf(d);
                }
            }
            return left;
        }

        private boolean powerSuffices(int d, int units) {
            int hub = row[HUB + d];
            return units <= portGives(hub) && (isBoundless(hub) || units <= leftOf(hub, d));
        }

        // Time of the bus.

        private int runsAt(int hub) {
            if (hub == ROOT) {
                return HIGH;
            }
            return hub >= 0 && hub < ROOT ? row[RUNS + hub] : NONE;
        }

        /** At which SPEED one runs, or would run. */
        private int speedOf(int d) {
            int speed = plan.row[Plan.SPEED + d];
            return runsAt(row[HUB + d]) == HIGH ? speed : Math.min(speed, 1);
        }

        /** The first HUB above one that runs at 2. */
        int helperAbove(int d) {
            int above = row[HUB + d];
            for (int k = 0; k < MOST_DEVICES && above >= 0 && above < ROOT; k++) {
                if (row[RUNS + above] == HIGH) {
                    return above;
                }
                above = row[HUB + above];
            }
            return above;
        }

        private int helpFor(int d, int speed) {
            return plan.row[Plan.BYTES + d] * (speed == 0 ? 8 : 2);
        }

        private int busFor(int d, int speed) {
            int bytes = plan.row[Plan.BYTES + d];
            return bytes + (speed < HIGH && bytes > 0 ? 4 : 0);
        }

        int helpOf(int hub) {
            int help = 0;
            for (int d = 0; d < plan.devices; d++) {
                if (isAwake(d) && row[RUNS + d] < HIGH && helperAbove(d) == hub) {
                    help += helpFor(d, row[RUNS + d]);
                }
            }
            return help;
        }

        int busUsed() {
            int used = 0;
            for (int d = 0; d < plan.devices; d++) {
                used += isAwake(d) ? busFor(d, row[RUNS + d]) : 0;
            }
            return used;
        }

        /** Whether HELP and BUS bear one more that is not counted in them yet. */
        private boolean timeSuffices(int d) {
            int speed = speedOf(d);
            if (busUsed() + busFor(d, speed) > plan.rules[RULE_BUS]) {
                return false;
            }
            return speed == HIGH || helpOf(helperAbove(d)) + helpFor(d, speed) <= plan.rules[RULE_HELP];
        }

        // What one tells of itself.

        int byteOf(int d, int i) {
            int end = 7 + plan.row[Plan.PORTS + d];
            if (i < end) {
                return i == 0 && row[ERROR + d] == 1 ? 3 : byteChecked(d, i);
            }
            int sum = 0;
            for (int k = 0; k < end; k++) {
                sum += byteChecked(d, k);
            }
            return (row[ERROR + d] == 2 ? 1 - sum : -sum) & 255;
        }

        /** A byte ahead of CHECK as CHECK is made for it: it knows nothing of a LENGTH of 3. */
        private int byteChecked(int d, int i) {
            int ports = plan.row[Plan.PORTS + d];
            switch (i) {
                case 0: return 8 + ports;
                case 1: return ports > 0 ? 9 : 1;
                case 2: return plan.row[Plan.SPEED + d];
                case 3: return plan.row[Plan.UNITS + d];
                case 4: return row[ERROR + d] == 3 ? 7 : ports;
                case 5: return plan.row[Plan.BYTES + d];
                case 6: return plan.row[Plan.OWN + d];
                default: return 10 + i - 7;
            }
        }

        private boolean isSound(int d) {
            int sum = 0;
            for (int i = 0; i < plan.lengthOf(d); i++) {
                sum += byteOf(d, i);
            }
            return (sum & 255) == 0 && byteOf(d, 0) == 8 + byteOf(d, 4);
        }

        // Whether an ACT can be.

        /** What STATUS counts an ACT as that can't be; NONE: it can be. */
        int barOf(int sort, int a, int b, int c) {
            if (sort == TICKING) {
                return barOfTicks(a);
            }
            if (!plan.has(a)) {
                return NO_SUCH;
            }
            boolean can;
            switch (sort) {
                case PLUGGING: return barOfPlug(a, b, c);
                case ERRING: return barOfError(a, b);
                case UNPLUGGING: can = row[WHAT + a] != AWAY; break;
                case SUPPLYING: can = plan.row[Plan.OWN + a] == 1; break;
                case TRYING: can = row[WHAT + a] == REFUSED; break;
                default: can = row[ASLEEP + a] == 1 ? canWake(a) : canFallAsleep(a); break;
            }
            return can ? NONE : CANNOT_BE;
        }

        private int barOfTicks(int n) {
            if (!plan.isTold()) {
                return NO_SUCH;
            }
            if (n < 1 || n > MOST_TICKS) {
                return OUT_OF_BOUNDS;
            }
            return row[TIME] + n > MOST_TIME ? NO_TIME : NONE;
        }

        private int barOfPlug(int d, int hub, int port) {
            if (!plan.isHub(hub)) {
                return NO_SUCH;
            }
            if (!plan.hasPort(hub, port)) {
                return OUT_OF_BOUNDS;
            }
            boolean taken = pluggedInto(hub, port) != NONE;
            return row[WHAT + d] != AWAY || is(hub, AWAY) || taken ? CANNOT_BE : NONE;
        }

        private int barOfError(int d, int error) {
            if (error < 0 || error > MOST_ERROR) {
                return OUT_OF_BOUNDS;
            }
            return row[ERROR + d] == error ? CANNOT_BE : NONE;
        }

        private boolean canFallAsleep(int d) {
            for (int e = 0; e < plan.devices; e++) {
                if (row[HUB + e] == d && (isStanding(e) || isAwake(e))) {
                    return false;
                }
            }
            return row[WHAT + d] == CONFIGURED;
        }

        private boolean canWake(int d) {
            int units = row[SUPPLY + d] == 1 ? 0 : plan.row[Plan.UNITS + d];
            return !isAsleep(row[HUB + d]) && powerSuffices(d, units) && timeSuffices(d);
        }

        // ACTS, once they can be.

        void putIn(int d, int hub, int port) {
            lower(d, SETTLING);
            row[TIMER + d] = plan.rules[RULE_DEBOUNCE];
            row[FAILS + d] = 0;
            row[HUB + d] = hub;
            row[PORT + d] = port;
        }

        void pullOut(int device) {
            // Asked first: who has left no longer tells what hung on it.
            int gone = beneath(device) | 1 << device;
            for (int d = 0; d < plan.devices; d++) {
                if ((gone >> d & 1) == 1) {
                    leave(d);
                }
            }
        }

        void switchSupply(int d) {
            row[SUPPLY + d] = 1 - row[SUPPLY + d];
            if (row[SUPPLY + d] == 1) {
                return;
            }
            if (row[WHAT + d] == CONFIGURED && !powerSuffices(d, takesOf(d))) {
                refuse(d, BY_POWER);
            } else {
                shed(d);
            }
        }

        void queueAfresh(int d) {
            row[FAILS + d] = 0;
            queue(d);
        }

        void passTick() {
            settle();
            int d = standing();
            if (d != NONE) {
                boolean second = row[WHAT + d] == AT_SECOND;
                if (!passes(d)) {
                    fail(d);
                } else if (second) {
                    conclude(d, reasonAgainst(d));
                }
            }
            int next = standing() == NONE ? firstInLine() : NONE;
            if (next != NONE) {
                lower(next, IN_RESET);
                row[TIMER + next] = plan.rules[RULE_RESET];
            }
            row[TIME] = Math.min(row[TIME] + 1, MOST_TIME);
        }

        // The parts of a TICK.

        private void settle() {
            for (int d = 0; d < plan.devices; d++) {
                if (row[WHAT + d] == SETTLING) {
                    row[TIMER + d]--;
                    if (row[TIMER + d] <= 0) {
                        queue(d);
                    }
                }
            }
        }

        /** Whether one that is in RESET or at a bite passes it; it goes on then, up to SECOND. */
        private boolean passes(int d) {
            if (row[WHAT + d] == AT_SECOND) {
                return isSound(d);
            }
            if (row[WHAT + d] == AT_FIRST) {
                int length = byteOf(d, 0);
                boolean passed = length >= 8 && length <= 12;
                row[WHAT + d] = passed ? AT_SECOND : AT_FIRST;
                return passed;
            }
            row[TIMER + d]--;
            row[WHAT + d] = row[TIMER + d] > 0 ? IN_RESET : AT_FIRST;
            return true;
        }

        private void fail(int d) {
            row[FAILS + d]++;
            if (row[FAILS + d] >= plan.rules[RULE_TRIES]) {
                refuse(d, BY_BYTES);
            } else {
                queue(d);
            }
        }

        /** WHY one that is JUDGED is REFUSED; 0: it is not. */
        private int reasonAgainst(int d) {
            if (depthOf(d) > MOST_DEPTH) {
                return BY_DEPTH;
            }
            if (freeAddress() == NONE) {
                return BY_ADDRESS;
            }
            if (!powerSuffices(d, takesOf(d))) {
                return BY_POWER;
            }
            return timeSuffices(d) ? 0 : BY_TIME;
        }

        private void conclude(int d, int why) {
            if (why != 0) {
                refuse(d, why);
                return;
            }
            lower(d, CONFIGURED);
            row[ADDRESS + d] = freeAddress();
            row[RUNS + d] = speedOf(d);
        }

        /** Of the WAITING ones that can be reset that with the least TURN. */
        private int firstInLine() {
            int first = NONE;
            for (int d = 0; d < plan.devices; d++) {
                int hub = row[HUB + d];
                boolean open = hub == ROOT || is(hub, CONFIGURED) && !isAsleep(hub);
                if (row[WHAT + d] == WAITING && open && (first == NONE || row[TURN + d] < row[TURN + first])) {
                    first = d;
                }
            }
            return first;
        }

        // How one changes what it is.

        /** What one has only while it is what it was goes with that. */
        private void lower(int d, int what) {
            row[WHAT + d] = what;
            row[TIMER + d] = 0;
            row[TURN + d] = 0;
            row[RUNS + d] = NONE;
            row[ADDRESS + d] = 0;
            row[WHY + d] = 0;
            row[ASLEEP + d] = 0;
        }

        private void leave(int d) {
            lower(d, AWAY);
            row[HUB + d] = NONE;
            row[PORT + d] = NONE;
        }

        private void queue(int d) {
            lower(d, WAITING);
            row[TURNS]++;
            row[TURN + d] = row[TURNS];
        }

        private void refuse(int d, int why) {
            lower(d, REFUSED);
            row[WHY + d] = why;
            for (int e = 0; e < plan.devices; e++) {
                if (hangsOn(e, d) && row[WHAT + e] >= IN_RESET && row[WHAT + e] <= CONFIGURED) {
                    queue(e);
                }
            }
        }

        /** Refuses those right at a HUB without SUPPLY, the greatest first, till it bears the rest. */
        private void shed(int hub) {
            for (int k = 0; k < MOST_DEVICES; k++) {
                int worst = greatestTaker(hub);
                if (worst == NONE || takesOf(worst) <= portGives(hub) && leftOf(hub, NONE) >= 0) {
                    return;
                }
                refuse(worst, BY_POWER);
            }
        }

        private int greatestTaker(int hub) {
            int greatest = NONE;
            for (int d = 0; d < plan.devices; d++) {
                boolean hangs = row[HUB + d] == hub && row[WHAT + d] == CONFIGURED;
                if (hangs && (greatest == NONE || takesOf(d) >= takesOf(greatest))) {
                    greatest = d;
                }
            }
            return greatest;
        }
    }
}
