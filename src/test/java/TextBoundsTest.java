import java.util.function.IntPredicate;

/**
 * Part 1 of the Terms, promises 2 to 5 and 32: each bound of a TEXT, of the TAPE and of the SCRIPTS, the
 * last that is taken and the first that is not. Each method quotes the sentence that it holds.
 */
public final class TextBoundsTest {
    private static final int NONE = HubTree.NONE;
    private static final int HIDDEN = HubTree.HIDDEN;

    /** Of each ITEM: its CLAUSE, its letter, the least, the most, without it, what of rule or told. */
    private record Item(char clause, char letter, int low, int high, int usual, int what) {}

    private static final Item[] ITEMS = {
        new Item('s', 'n', 1, 4, 4, 0), new Item('s', 'd', 1, 9, 3, 1), new Item('s', 'r', 1, 9, 2, 2),
        new Item('s', 'y', 1, 5, 2, 3), new Item('s', 'p', 1, 9, 5, 4), new Item('s', 'm', 20, 200, 99, 5),
        new Item('s', 'h', 10, 99, 60, 6), new Item('s', 'a', 1, 9, 9, 7), new Item('d', 'n', 0, 4, 0, 0),
        new Item('d', 's', 0, 2, 1, 1), new Item('d', 'u', 0, 9, 1, 2), new Item('d', 'o', 0, 1, 0, 3),
        new Item('d', 'b', 0, 99, 4, 4), new Item('d', 'e', 0, 3, 0, 5),
    };

    private TextBoundsTest() {}

    public static void main(String[] args) {
        clauses();
        itemsWithinBounds();
        itemsUsual();
        itemsOnce();
        digitsOfTrees();
        stepsOneToSixteen();
        digitsOfSteps();
        numbersOfScripts();
        blanks();
        endsTooEarly();
        everyByte();
        faultsInOrder();
        feedUpTo240();
        feedLeavesOutZeros();
        endsOfTheTape();
        sortsOfTexts();
        fourScripts();
        stepsTold();
        Checks.finish();
    }

    private static void tree(String text, int fault) {
        HubTree x = Checks.withTape(text);
        Checks.due("FAULT of the TREE '" + text + "'", fault, x.fault(0));
        Checks.due("fault changes no TAPE: '" + text + "'", text.length(), x.count(2));
        Checks.holds("text agrees with fault: '" + text + "'", x.text(0) > 0 == (fault == NONE));
    }

    private static void script(String text, int fault) {
        HubTree x = Checks.withTape(text);
        Checks.due("FAULT of the SCRIPT '" + text + "'", fault, x.fault(1));
        Checks.due("text agrees with fault: '" + text + "'", fault == NONE ? 0 : NONE, x.text(1));
    }

    private static String times(int n, String clause) {
        return String.join(";", java.util.Collections.nCopies(n, clause));
    }

    /** "CLAUSES with ; between: s (its RULES; one at most), d (a DEVICE; 1 .. 8), in any order". */
    private static void clauses() {
        tree("", 0);
        tree("s", 1);
        tree("sn1", 3);
        tree("s;s", 2);
        tree("sn2;sn2;d", 4);
        tree("d;s;s", 4);
        tree("s;d;sn1", 4);
        for (int n = 1; n <= 8; n++) {
            tree(times(n, "d"), NONE);
            Checks.due("so many DEVICES", n, Checks.withTape(times(n, "d")).text(0));
            for (int at = 0; at <= n; at++) {
                String text = (at > 0 ? times(at, "d") + ";" : "") + "sa7" + (at < n ? ";" + times(n - at, "d") : "");
                tree(text, NONE);
                HubTree x = Checks.withTree(text);
                Checks.due("s among d: RULES", 7, x.rule(7));
                Checks.due("s among d: DEVICES", n, x.count(0));
            }
        }
        tree(times(9, "d"), 16);
        tree(times(8, "d") + ";s;d", 18);
        tree("s;" + times(9, "d"), 18);
        tree(times(8, "d") + ";s;s", 18);
        tree(times(8, "dn1") + ";dn1", 32);
    }

    /** "n PORTS of the ROOT (1 .. 4; 4 without) ..": every number of one to three digits, and of four. */
    private static void itemsWithinBounds() {
        for (Item item : ITEMS) {
            for (int width = 1; width <= 4; width++) {
                int end = width == 1 ? 10 : width == 2 ? 100 : width == 3 ? 1000 : 1300;
                for (int value = 0; value < end; value++) {
                    number(item, value, ("0000" + value).substring(4 + Integer.toString(value).length() - width));
                    value += width == 4 ? 12 : 0;
                }
            }
        }
    }

    private static void number(Item item, int value, String digits) {
        String text = "d;" + item.clause + item.letter + digits;
        boolean fits = digits.length() < 4 && value >= item.low && value <= item.high;
        // Wrong is the last of one to three digits, or the fourth: here both are the last sign.
        int fault = fits ? NONE : text.length() - 1;
        HubTree x = Checks.withTape(text);
        Checks.due("FAULT of '" + text + "'", fault, x.fault(0));
        Checks.due("FAULT of '" + text + " ;d'", fault, Checks.withTape(text + " ;d").fault(0));
        if (fits) {
            x.text(0);
            Checks.due("told by '" + text + "'", value, item.clause == 's' ? x.rule(item.what) : x.told(1, item.what));
            Checks.holds("of that DEVICE alone", item.clause == 's' || x.told(0, item.what) == item.usual);
        }
    }

    /** "(1 .. 4; 4 without)": what is not told is as without, also behind a TREE that told it. */
    private static void itemsUsual() {
        HubTree x = Checks.withTree("sn1d9r8y5p9m200h99a1;dn4s2u9o1b99e3");
        Checks.feed(x, "d");
        Checks.due("another TREE", 1, x.text(0));
        HubTree y = Checks.withTree("s;d");
        for (Item item : ITEMS) {
            int got = item.clause == 's' ? x.rule(item.what) : x.told(0, item.what);
            Checks.due("without " + item, item.usual, got);
            Checks.due("an empty CLAUSE " + item, item.usual, item.clause == 's' ? y.rule(item.what) : y.told(0, item.what));
        }
    }

    /** "ITEMS, none or more: a letter, each once at most in a CLAUSE"; "a letter that was there". */
    private static void itemsOnce() {
        for (Item item : ITEMS) {
            String once = "" + item.letter + item.high;
            String head = "d;" + item.clause;
            tree(head + once, NONE);
            tree(head + once + once, head.length() + once.length());
            tree(head + once + " " + item.letter, head.length() + once.length() + 1);
            String other = item.letter == 'n' ? item.clause == 's' ? "a1" : "u1" : "n1";
            tree(head + once + other + once, head.length() + once.length() + other.length());
            if (item.clause == 'd') {
                tree(head + once + ";d" + once, NONE);
            }
            boolean ofBoth = item.letter == 'n';
            if (!ofBoth) {
                tree("d;" + (item.clause == 's' ? "d" : "s") + once, 3);
            }
        }
        tree("sn4d9r9y5p9m200h99a9;dn4s2u9o1b99e3", NONE);
        tree("sa9h99m200p9y5r9d9n4;de3b99o1u9s2n4", NONE);
        tree("d;dd1", 3);
        tree("d;ss1", 3);
    }

    /** "a number (one to three digits)"; "wrong at its last digit, a fourth digit itself, whatever stands ahead". */
    private static void digitsOfTrees() {
        tree("sm", 2);
        tree("sm;d", 2);
        tree("sm2;d", 2);
        tree("sm2", 2);
        tree("sm20;d", NONE);
        tree("sm020;d", NONE);
        tree("sm200;d", NONE);
        tree("sm201;d", 4);
        tree("sm999;d", 4);
        tree("sm2000;d", 5);
        tree("sm0020;d", 5);
        tree("sm0000;d", 5);
        tree("sm9999;d", 5);
        tree("sm99999;d", 5);
        tree("sm999 9;d", 4);
        tree("sm200 0;d", 6);
        tree("sm0;d", 2);
        tree("sm00;d", 3);
        tree("sm000;d", 4);
        tree("sm00x;d", 3);
        tree("dn0000", 5);
        tree("dn1234", 5);
        tree("dn000", NONE);
        tree("dn-1", 2);
        tree("dn+1", 2);
        tree("dn1.", 3);
    }

    /** "STEPS with ; between, 1 to 16"; "the ; ahead of a 17th STEP". */
    private static void stepsOneToSixteen() {
        script("", 0);
        script("   ", 3);
        for (int n = 1; n <= 16; n++) {
            script(times(n, "u1"), NONE);
            script(times(n, "u1") + " ", NONE);
            script(times(n, "u1") + ";", n < 16 ? 3 * n : 47);
            HubTree x = new HubTree();
            Checks.script(x, times(n, "u" + n % 10));
            Checks.due("the last STEP", n % 10, x.step(0, n - 1, 1));
            Checks.due("none behind it", HIDDEN, x.step(0, n, 1));
        }
        script(times(17, "u1"), 47);
        script(times(16, "u1") + "  ;u1", 49);
        script(times(16, "p111") + ";", 79);
        script(times(16, "t11") + "x", 63);
        script(";u1", 0);
        script("u1;;u1", 3);
    }

    /** "p and three digits, u and a digit, t and a number, o and a digit, e and two digits, z and a digit". */
    private static void digitsOfSteps() {
        String[] kinds = {"p", "u", "t", "o", "e", "z"};
        int[] least = {3, 1, 1, 1, 2, 1};
        int[] most = {3, 1, 2, 1, 2, 1};
        for (int k = 0; k < kinds.length; k++) {
            for (int digits = 0; digits <= 5; digits++) {
                String text = kinds[k] + "12345".substring(0, digits);
                int fault = digits < least[k] ? text.length() : digits > most[k] ? 1 + most[k] : NONE;
                script(text, fault);
                script(text + ";u1", digits < least[k] ? text.length() : fault);
                script(text + "x", digits < least[k] ? text.length() : fault == NONE ? text.length() : fault);
            }
        }
    }

    /** "Numbers of SCRIPTS: 0 .. 99"; "(a third one in a SCRIPT)"; "What a STEP tells that can't be is no FAULT". */
    private static void numbersOfScripts() {
        for (int n = 0; n <= 99; n++) {
            HubTree x = new HubTree();
            Checks.due("t" + n, 0, Checks.script(x, "t" + n));
            Checks.due("t" + n + " told", n, x.step(0, 0, 1));
            HubTree y = new HubTree();
            Checks.due("two digits", 0, Checks.script(y, "t" + n / 10 + n % 10));
            Checks.due("two digits told", n, y.step(0, 0, 1));
        }
        script("t100", 3);
        script("t000", 3);
        script("t001", 3);
        script("t999", 3);
        script("t9999", 3);
        for (int digit = 0; digit <= 9; digit++) {
            script("p" + digit + digit + digit, NONE);
            script("u" + digit, NONE);
            script("o" + digit, NONE);
            script("e" + digit + digit, NONE);
            script("z" + digit, NONE);
            HubTree x = new HubTree();
            Checks.script(x, "p" + digit + "89;e7" + digit);
            Checks.due("a digit of p", digit, x.step(0, 0, 1));
            Checks.due("a digit of e", digit, x.step(0, 1, 2));
        }
    }

    /** "Blanks (32) may stand between all signs of both, not within a number." */
    private static void blanks() {
        String[] signs = {"s", "n", "4", "m", "120", ";", "d", "n", "004", "b", "99", ";", "d"};
        everyGap(signs, 0);
        String[] steps = {"p", "0", "8", "3", ";", "t", "60", ";", "e", "1", "2", ";", "u", "0", ";", "z", "1"};
        everyGap(steps, 1);
        tree("sm1 20;d", 2);
        tree("sm12 0;d", 3);
        tree("sm20 0;d", 5);
        tree("db9 9", 4);
        tree("db99 9", 5);
        script("t6 0", 3);
        script("t60 0", 4);
        for (int sign : new int[] {1, 9, 10, 13, 31, 33, 95, 127, 160, 255}) {
            tree("d" + (char) sign, 1);
            tree((char) sign + "d", 0);
            tree("dn" + (char) sign + "1", 2);
            script("u" + (char) sign + "1", 1);
            script("u1" + (char) sign, 2);
        }
    }

    private static void everyGap(String[] signs, int sort) {
        for (int gap = 0; gap <= signs.length; gap++) {
            StringBuilder text = new StringBuilder();
            for (int i = 0; i <= signs.length; i++) {
                text.append(gap == i ? "   " : "").append(i < signs.length ? signs[i] : "");
            }
            Checks.due("blanks in '" + text + "'", NONE, Checks.withTape(text.toString()).fault(sort));
        }
        String all = "  " + String.join("  ", signs) + "  ";
        Checks.due("blanks everywhere in '" + all + "'", NONE, Checks.withTape(all).fault(sort));
    }

    /** "(the length, if it ends too early, or without a DEVICE)": every beginning of a TEXT. */
    private static void endsTooEarly() {
        //            s  n  4     m  1  2  0  ;  d  n  0  0  4     ;  d  b  9
        String tree = "sn4 m120;dn004 ;db9";
        int[] faults = {0, 1, 2, 3, 4, 5, 5, 6, 8, 9, NONE, 11, NONE, NONE, NONE, NONE, 16, NONE, 18, NONE};
        // Of m120 the first digit alone is too small, and so are two of them.
        for (int n = 0; n <= tree.length(); n++) {
            Checks.due("the first " + n + " of the TREE", faults[n], Checks.withTape(tree.substring(0, n)).fault(0));
            HubTree x = Checks.withTape(tree);
            x.end(n);
            Checks.due("the TREE cut behind " + n, faults[n], x.fault(0));
        }
        String script = "p083;t60; e12;u0";
        int[] ends = {0, 1, 2, 3, NONE, 5, 6, NONE, NONE, 9, 10, 11, 12, NONE, 14, 15, NONE};
        for (int n = 0; n <= script.length(); n++) {
            Checks.due("the first " + n + " of the SCRIPT", ends[n], Checks.withTape(script.substring(0, n)).fault(1));
            HubTree x = Checks.withTape(script);
            x.end(n);
            Checks.due("the SCRIPT cut behind " + n, ends[n], x.fault(1));
        }
    }

    private static void bytesBehind(int sort, String ahead, IntPredicate goesOn) {
        for (int sign = 1; sign <= 255; sign++) {
            String text = ahead + (char) sign;
            int fault = Checks.withTape(text).fault(sort);
            boolean wrongThere = fault == ahead.length();
            Checks.due("byte " + sign + " behind '" + ahead + "'", goesOn.test(sign) ? 1 : 0, wrongThere ? 0 : 1);
        }
    }

    private static boolean isDigit(int sign) {
        return sign >= '0' && sign <= '9';
    }

    /** "FAULT: the first byte at which no such TEXT can go on": every byte at every kind of place. */
    private static void everyByte() {
        bytesBehind(0, "", c -> " sd".indexOf(c) >= 0);
        bytesBehind(0, "d;", c -> " sd".indexOf(c) >= 0);
        bytesBehind(0, "s;", c -> " d".indexOf(c) >= 0);
        bytesBehind(0, times(8, "d") + ";", c -> " s".indexOf(c) >= 0);
        bytesBehind(0, "d", c -> " ;nsuobe".indexOf(c) >= 0);
        bytesBehind(0, "s", c -> " ;ndrypmha".indexOf(c) >= 0);
        bytesBehind(0, "db", c -> c == ' ' || isDigit(c));
        bytesBehind(0, "db9", c -> " ;nsuoe".indexOf(c) >= 0 || isDigit(c));
        bytesBehind(0, "dn004", c -> " ;suobe".indexOf(c) >= 0);
        bytesBehind(1, "", c -> " putoez".indexOf(c) >= 0);
        bytesBehind(1, "u1;", c -> " putoez".indexOf(c) >= 0);
        bytesBehind(1, "u", c -> c == ' ' || isDigit(c));
        bytesBehind(1, "p1", c -> c == ' ' || isDigit(c));
        bytesBehind(1, "p12", c -> c == ' ' || isDigit(c));
        bytesBehind(1, "p123", c -> " ;".indexOf(c) >= 0);
        bytesBehind(1, "e1", c -> c == ' ' || isDigit(c));
        bytesBehind(1, "t", c -> c == ' ' || isDigit(c));
        bytesBehind(1, "t1", c -> " ;".indexOf(c) >= 0 || isDigit(c));
        bytesBehind(1, "t12", c -> " ;".indexOf(c) >= 0);
    }

    /** "the first byte at which no such TEXT can go on": of several the first. */
    private static void faultsInOrder() {
        tree("dn5;x", 2);
        tree("x;dn5", 0);
        tree("dn9999x", 5);
        tree("s;s;" + times(9, "d"), 2);
        tree("dn1n1u99", 3);
        script("u12;x", 2);
        script("u1;x;u12", 3);
        script("t100;" + times(16, "u1"), 3);
    }

    /** "Twenty bytes more come to the TAPE ..: how many it has. NONE: more than 240." */
    private static void feedUpTo240() {
        for (int has = 220; has <= 240; has++) {
            for (int more = 0; more <= 20; more++) {
                HubTree x = Checks.withTape("d".repeat(has));
                int[] n = new int[5];
                for (int i = 0; i < more; i++) {
                    n[i / 4] |= 'x' << 24 - i % 4 * 8;
                }
                int want = has + more > 240 ? NONE : has + more;
                Checks.due(more + " to " + has, want, x.feed(n[0], n[1], n[2], n[3], n[4]));
                Checks.due(more + " to " + has + ": it has", want == NONE ? has : want, x.count(2));
            }
        }
        HubTree x = Checks.withTape(" ".repeat(239) + "d");
        Checks.due("a full TAPE is read to its end", NONE, x.fault(0));
        Checks.due("a full TAPE is a TREE", 1, x.text(0));
        Checks.due("and is empty then", 0, x.count(2));
        Checks.due("and takes as many again", 20, x.feed(-1, -1, -1, -1, -1));
    }

    /** "(of each number the highest first; bytes of 0 are left out)". */
    private static void feedLeavesOutZeros() {
        String text = "sn3;dn2o1;du7b12";
        for (int zero = 0; zero <= 19; zero++) {
            // The bytes stand behind one another but for a 0 at one place of the twenty.
            int[] n = new int[5];
            for (int i = 0, at = 0; i < text.length(); i++, at++) {
                at += at == zero ? 1 : 0;
                n[at / 4] |= text.charAt(i) << 24 - at % 4 * 8;
            }
            HubTree x = new HubTree();
            Checks.due("a 0 at " + zero, text.length(), x.feed(n[0], n[1], n[2], n[3], n[4]));
            Checks.due("a 0 at " + zero + ": the TREE", 2, x.text(0));
            Checks.due("a 0 at " + zero + ": its PORTS", 3, x.rule(0));
            Checks.due("a 0 at " + zero + ": its UNITS", 7, x.told(1, 2));
            Checks.due("a 0 at " + zero + ": its BYTES", 12, x.told(1, 4));
        }
        HubTree x = new HubTree();
        Checks.due("zeros alone", 0, x.feed(0, 0, 0, 0, 0));
        Checks.due("255 twenty times", 20, x.feed(-1, -1, -1, -1, -1));
        Checks.due("the least number is one byte", 21, x.feed(Integer.MIN_VALUE, 0, 0, 0, 0));
        Checks.due("the greatest number is four", 25, x.feed(Integer.MAX_VALUE, 0, 0, 0, 0));
        Checks.due("each byte of a number", 29, x.feed(1 << 24, 1 << 16, 0, 1 << 8, 1));
    }

    /** "The TAPE has its first n bytes alone. False: n." */
    private static void endsOfTheTape() {
        for (int length : new int[] {0, 1, 20, 21, 239, 240}) {
            for (int n : new int[] {Integer.MIN_VALUE, -241, -1, 0, 1, 19, 20, 21, 239, 240, 241, Integer.MAX_VALUE}) {
                HubTree x = Checks.withTape("d".repeat(length));
                boolean fits = n >= 0 && n <= length;
                Checks.holds("end " + n + " of " + length, x.end(n) == fits);
                Checks.due("end " + n + " of " + length + ": it has", fits ? n : length, x.count(2));
            }
        }
        HubTree x = Checks.withTape("dn2x;d");
        x.end(3);
        Checks.feed(x, "o1");
        Checks.due("what comes then stands behind the first n", NONE, x.fault(0));
        x.text(0);
        Checks.due("PORTS", 2, x.told(0, 0));
        Checks.due("OWN", 1, x.told(0, 3));
    }

    /** "-2: no such sort"; "NONE: a FAULT (the TAPE stays), no such sort". */
    private static void sortsOfTexts() {
        int[] others = {Integer.MIN_VALUE, -2, -1, 2, 3, Integer.MAX_VALUE};
        for (int sort : others) {
            for (String tape : new String[] {"", "d", "u1", "x"}) {
                HubTree x = Checks.withTape(tape);
                Checks.due("fault of sort " + sort, -2, x.fault(sort));
                Checks.due("text of sort " + sort, NONE, x.text(sort));
                Checks.due("the TAPE stays", tape.length(), x.count(2));
                Checks.due("no DEVICES", 0, x.count(0));
                Checks.due("no SCRIPTS", 0, x.count(1));
            }
        }
        HubTree x = Checks.withTape("d");
        Checks.due("a TREE is no SCRIPT", 0, x.fault(1));
        Checks.due("nor taken as one", NONE, x.text(1));
        Checks.due("nor is the TAPE empty then", 1, x.count(2));
        Checks.due("it is taken as a TREE", 1, x.text(0));
        Checks.due("its TAPE is empty", 0, x.count(2));
        Checks.due("an empty TAPE is no TREE", NONE, x.text(0));
        Checks.due("an empty TAPE is no SCRIPT", NONE, x.text(1));
        Checks.feed(x, "u1");
        Checks.due("a SCRIPT is no TREE", NONE, x.text(0));
        Checks.due("the TREE ahead stays", 1, x.count(0));
        Checks.due("a SCRIPT", 0, x.text(1));
        Checks.due("the TAPE is empty", 0, x.count(2));
    }

    /** "SCRIPTS (4 at most)"; "NONE: .. there are four SCRIPTS". */
    private static void fourScripts() {
        HubTree x = new HubTree();
        for (int i = 0; i < 4; i++) {
            Checks.due("how many SCRIPTS ahead", i, x.count(1));
            Checks.due("no such one yet", HIDDEN, x.step(i, 0, 0));
            Checks.due("a SCRIPT: its number", i, Checks.script(x, "u" + i));
        }
        Checks.feed(x, "u9");
        Checks.due("a fifth has no FAULT", NONE, x.fault(1));
        Checks.due("a fifth", NONE, x.text(1));
        Checks.due("the TAPE stays", 2, x.count(2));
        Checks.due("four", 4, x.count(1));
        Checks.due("none has the number 4", HIDDEN, x.step(4, 0, 0));
        x.end(0);
        Checks.feed(x, "d");
        Checks.due("a TREE is taken still", 1, x.text(0));
        for (int i = 0; i < 4; i++) {
            Checks.due("SCRIPTS stay as they were", i, x.step(i, 0, 1));
        }
    }

    /** "A STEP of a SCRIPT: 0 what, 1 to 3 its numbers (NONE: there are fewer). HIDDEN: no such ones." */
    private static void stepsTold() {
        HubTree x = new HubTree();
        Checks.script(x, "p123;u4;t56;o7;e89;z0");
        Checks.script(x, "z9");
        int[][] steps = {
            {0, 1, 2, 3}, {1, 4, NONE, NONE}, {2, 56, NONE, NONE}, {3, 7, NONE, NONE}, {4, 8, 9, NONE}, {5, 0, NONE, NONE},
        };
        int[] odd = {Integer.MIN_VALUE, -2, -1, 4, 5, 1 << 30, Integer.MAX_VALUE};
        for (int i = 0; i < steps.length; i++) {
            for (int what = 0; what <= 3; what++) {
                Checks.due("step 0 " + i + " " + what, steps[i][what], x.step(0, i, what));
            }
            for (int what : odd) {
                Checks.due("step 0 " + i + " " + what, HIDDEN, x.step(0, i, what));
            }
        }
        for (int i : new int[] {Integer.MIN_VALUE, -16, -1, 6, 15, 16, 17, 1 << 28, 1 << 30, Integer.MAX_VALUE}) {
            Checks.due("step 0 " + i, HIDDEN, x.step(0, i, 0));
        }
        for (int script : new int[] {Integer.MIN_VALUE, -1, 2, 3, 4, 1 << 26, Integer.MAX_VALUE}) {
            Checks.due("step of SCRIPT " + script, HIDDEN, x.step(script, 0, 0));
        }
        Checks.due("the second SCRIPT has one STEP", 9, x.step(1, 0, 1));
        Checks.due("and no second", HIDDEN, x.step(1, 1, 1));
    }
}
