/** What the tests share: counting what is not as due, and putting texts on a TAPE. */
final class Checks {
    private static int made = 0;
    private static int wrong = 0;

    private Checks() {}

    static void due(String what, long want, long got) {
        made++;
        if (want != got) {
            wrong++;
            if (wrong <= 40) {
                System.out.println(what + ": answered " + got + ", due is " + want);
            }
        }
    }

    static void holds(String what, boolean held) {
        due(what, 1, held ? 1 : 0);
    }

    /** Says how many checks were made; ends the program with 1 if one did not hold. */
    static void finish() {
        System.out.println(made + " checks, " + wrong + " wrong");
        if (wrong != 0 || made == 0) {
            System.exit(1);
        }
    }

    /** Puts a text behind what the TAPE has: the last answer of feed. */
    static int feed(HubTree x, String text) {
        int answer = x.count(2);
        for (int from = 0; from < text.length(); from += 20) {
            int[] numbers = new int[5];
            for (int i = 0; i < 20 && from + i < text.length(); i++) {
                numbers[i / 4] |= text.charAt(from + i) << 24 - i % 4 * 8;
            }
            answer = x.feed(numbers[0], numbers[1], numbers[2], numbers[3], numbers[4]);
        }
        return answer;
    }

    static HubTree withTape(String text) {
        HubTree x = new HubTree();
        feed(x, text);
        return x;
    }

    static HubTree withTree(String text) {
        HubTree x = withTape(text);
        holds("a TREE: " + text, x.text(0) > 0);
        return x;
    }

    static int script(HubTree x, String text) {
        x.end(0);
        feed(x, text);
        return x.text(1);
    }

    /** An object whose TIME is that, in few calls: TICKS by SCRIPT 0, then by hand. */
    static HubTree atTime(String tree, int time) {
        HubTree x = withTree(tree);
        int script = script(x, "t60" + ";t60".repeat(15));
        while (time - x.all(0) >= 960) {
            x.perform(script);
        }
        while (x.all(0) < time) {
            x.tick(Math.min(60, time - x.all(0)));
        }
        due("TIME", time, x.all(0));
        return x;
    }

    /** What device answers; -99 stands for its exception. */
    static int device(HubTree x, int device, int what) {
        try {
            return x.device(device, what);
        } catch (java.util.NoSuchElementException e) {
            return -99;
        }
    }
}
