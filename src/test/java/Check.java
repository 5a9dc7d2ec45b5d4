/** What the tests share: the sentence that a check is for, answers that are due, texts on the tape, and rich towns. */
class Check {
    private static int right = 0;
    private static int wrong = 0;
    private static String sentence = "";

    /** The promise (0: the terms) and the words of it that the checks behind this line are for. */
    static void says(int promise, String words) {
        sentence = (promise == 0 ? "terms" : "promise " + promise) + ", \"" + words + "\"";
    }

    static void same(String what, long got, long due) {
        if (got == due) {
            right++;
            return;
        }
        wrong++;
        if (wrong <= 40) {
            System.out.println(sentence + ": " + what + " answered " + got + ", due is " + due);
        }
    }

    static void yes(String what, boolean got) {
        same(what, got ? 1 : 0, 1);
    }

    static void no(String what, boolean got) {
        same(what, got ? 1 : 0, 0);
    }

    static void none(String what, long got) {
        same(what, got, -1);
    }

    /** Ends the test, with exit code 1 if a check failed. */
    static void end() {
        System.out.println(right + " checks hold, " + wrong + " fail");
        if (wrong != 0) {
            System.exit(1);
        }
    }

    /** Puts a text on the tape, which is empty. */
    static void tape(GasTown x, String text) {
        for (int i = 0; i < text.length(); i += 20) {
            x.feed(four(text, i), four(text, i + 4), four(text, i + 8), four(text, i + 12), four(text, i + 16));
        }
        x.end(text.length());
    }

    private static int four(String text, int from) {
        int sum = 0;
        for (int i = from; i < from + 4; i++) {
            sum = sum << 8 | (i < text.length() ? text.charAt(i) : 32);
        }
        return sum;
    }

    static int tell(GasTown x, int act, int day, String text) {
        tape(x, text);
        return x.act(act, day);
    }

    /** A town with a full holder: LEVEL 21600 at STEP 32 (8 o'clock), six cold benches, 9891 tons of coal 0. */
    static GasTown rich() {
        GasTown x = new GasTown();
        x.holder(99999);
        x.hands(30);
        x.coal(0, 200, 0, 0);
        x.buy(0, 9999, 0);
        for (int b = 0; b < 6; b++) {
            x.bench();
            x.charge(b, 0, 9);
        }
        x.steps(16);
        for (int b = 0; b < 6; b++) {
            x.charge(b, 0, 9);
        }
        x.steps(16);
        return x;
    }

    /** A town with this LEVEL (0 .. 1800) at STEP 16 (4 o'clock), one cold bench, no coal; 6 hands; made as new else. */
    static GasTown filled(int level) {
        GasTown x = new GasTown();
        x.coal(0, 200, 0, 0);
        x.buy(0, 9, 0);
        x.bench();
        x.charge(0, 0, 9);
        x.holder(99999);
        x.steps(16);
        x.holder(level);
        x.holder(99999);
        x.coal(0, 100, 60, 5);
        return x;
    }
}
