import java.util.function.ToLongFunction;

/**
 * A call that is refused, and a question, leave the town as it is: two towns are made alike, one of them gets the call,
 * and all that can be seen of both is the same, then and after they are played on.
 */
public final class TraceTest extends Check {
    private static final int LEAST = Integer.MIN_VALUE;
    private static final int GREATEST = Integer.MAX_VALUE;

    private static boolean full;
    private static long[] due;
    private static int seen;
    private static long[] tale;

    public static void main(String[] args) {
        full = false;
        due = taleOf(busy());
        says(0, "the town is looked at from all sides");
        yes("two hundred answers", seen > 200);
        works();
        net();
        things();
        books();
        acts();
        plans();
        questions();
        full = true;
        due = taleOf(fullTown());
        fullTowns();
        fullBooks();
        end();
    }

    // ---- two towns ----

    /** A town in the middle of its life: something of all, nothing full. */
    private static GasTown busy() {
        GasTown x = new GasTown();
        x.holder(3000);
        x.hands(12);
        x.coal(1, 150, 40, 7);
        x.buy(0, 50, 3);
        x.buy(1, 60, 2);
        x.buy(2, 5, 1);
        for (int b = 0; b < 4; b++) {
            x.bench();
        }
        x.charge(0, 0, 9);
        x.charge(1, 1, 9);
        x.node(0, 3, 2);
        x.node(1, 5, -4);
        x.node(1, 2, 1);
        x.node(0, 9, 0);
        int[][] things = {{1, 0, 20, 0}, {2, 1, 5, 3}, {3, 2, 30, 0}, {4, 3, 8, 0}, {4, 0, 40, 0}, {0, 2, 9, 0}, {0, 1, 7, 9},
            {2, 0, 33, 0}};
        for (int[] t : things) {
            x.thing(t[0], t[1], t[2], t[3]);
        }
        x.coin(2, 4);
        x.fog(0, 1);
        x.fog(1, 2);
        x.round(60, 30);
        x.steps(16);
        x.cut(7, true);
        x.read(0);
        x.read(4);
        x.steps(6);
        x.charge(2, 0, 5);
        x.steps(3);
        x.read(0);
        x.frost(4, true);
        x.read(4);
        x.right(0, 1, 77);
        x.right(0, 1, 80);
        x.sell(30, 2);
        tell(x, 0, 0, "pressure 33 when hour > 3; price 4 + fog; candles 14; fine short * 3; dividend 9;");
        tell(x, 1, 1, "price 6; price 7; pressure 20;");
        x.tries(10);
        x.water(3, true);
        x.sees(1, 1);
        x.sees(2, 0);
        x.sees(3, 0);
        x.work(1, 1, 20);
        x.work(4, 2, 30);
        x.steps(2);
        x.charge(1, 1, 3);
        tape(x, "fine 1; fine 2; fin");
        return x;
    }

    /** A town that has all that it can have, but readings. */
    private static GasTown fullTown() {
        GasTown x = new GasTown();
        x.hands(30);
        x.holder(99999);
        for (int k = 0; k < 3; k++) {
            x.buy(k, 9999, 1);
        }
        for (int b = 0; b < 6; b++) {
            x.bench();
            x.charge(b, 2, 9);
        }
        x.buy(2, 54, 1);
        for (int n = 1; n < 16; n++) {
            x.node(n / 2, 1 + n % 9, n % 5);
        }
        for (int t = 0; t < 40; t++) {
            x.thing(t % 16, t % 4, t, 0);
        }
        for (int i = 0; i < 8; i++) {
            x.work(i + 1, 1, 1 + i);
        }
        for (int i = 0; i < 30; i++) {
            x.feed(0x20202020, 0x20202020, 0x20202020, 0x20202020, 0x20202020);
        }
        x.steps(30);
        return x;
    }

    /** A town with 200 readings of two houses, and 100 of them put right. */
    private static GasTown booked() {
        GasTown x = new GasTown();
        x.thing(0, 0, 50, 0);
        x.thing(0, 0, 60, 0);
        x.holder(5000);
        x.bench();
        x.buy(0, 9, 0);
        x.charge(0, 0, 9);
        x.steps(10);
        for (int i = 0; i < 200; i++) {
            x.read(i % 2);
            if (i % 20 == 19) {
                x.steps(1);
            }
        }
        for (int i = 0; i < 100; i++) {
            x.right(i % 2, i % 90, 7 * i + 1);
        }
        return x;
    }

    // ---- all that can be seen ----

    private static void see(long answer) {
        if (seen < tale.length) {
            tale[seen] = answer;
        }
        seen++;
    }

    private static void see(boolean answer) {
        see(answer ? 1 : 0);
    }

    private static long[] taleOf(GasTown x) {
        tale = new long[500];
        seen = 0;
        seeTown(x);
        seeBooks(x);
        seePlans(x);
        playOn(x);
        for (int what = 0; what < 16; what++) {
            see(x.look(what));
        }
        return tale;
    }

    private static void seeTown(GasTown x) {
        for (int what = 0; what < 16; what++) {
            see(x.look(what));
        }
        int nodes = (int) x.look(14);
        for (int n = 0; n < nodes; n++) {
            see(x.at(n, 0));
            see(x.at(n, 1));
            see(x.at(n, 2));
            if (!full) {
                see(x.why(n, 0));
                see(x.why(n, 1));
            }
        }
        int things = (int) x.look(13);
        for (int t = 0; t < things; t++) {
            for (int what = full ? 3 : 0; what <= 4; what++) {
                see(x.of(t, what));
            }
        }
    }

    private static void seeBooks(GasTown x) {
        for (int s = 0; s <= 4; s++) {
            int[] steps = {(int) x.look(0), 200, 3999};
            for (int step : steps) {
                see(x.due(s, step, 2, 0));
                see(x.due(s, step, 2, 1));
            }
            see(x.due(s, 200, 2, 2));
        }
        for (int what = 0; what <= 3; what++) {
            see(x.share(what));
        }
        see(x.fault(0));
        see(x.fault(1));
        for (int j = 0; j <= 2; j++) {
            int now = (int) x.look(0);
            see(x.bill(0, j, now, 1));
            see(x.bill(0, j, now, 3));
            see(x.bill(4, j, now, 2));
            see(x.bill(4, j, now, 4));
        }
    }

    private static void seePlans(GasTown x) {
        for (int what = 0; what <= 8; what++) {
            see(x.best(0, 9, what));
        }
        see(x.last());
        see(x.find(0));
        see(x.find(1));
        for (int n = 1; n <= 4; n++) {
            see(x.find(10 + n));
        }
        for (int what = 0; what <= 2; what++) {
            see(x.choice(60, 30, what));
        }
    }

    /** What only shows as the town is played on: stock, hands, the tape, what is cut, frozen or counted to a limit. */
    private static void playOn(GasTown x) {
        see(x.end(581));
        see(x.end(19));
        see(x.end(20));
        see(x.end(15));
        see(x.act(3, 0));
        see(x.fault(0));
        see(x.due(3, 100, 0, 0));
        for (int k = 0; k <= 2; k++) {
            see(x.buy(k, 1, 5));
        }
        for (int b = 0; b <= 5; b++) {
            see(x.charge(b, b % 2, 1));
        }
        see(x.coin(2, 1));
        see(x.cut(7, false));
        see(x.frost(4, false));
        see(x.water(3, false));
        see(x.steps(1));
        see(x.at(0, 0));
        see(x.bench());
        see(x.node(1, 1, 1));
        see(x.thing(1, 0, 10, 0));
        see(x.work(1, 1, 1));
        see(x.read(0));
        see(x.right(0, 0, 3));
        see(x.sell(1, 1));
        see(x.tries(0));
        see(x.steps(40));
        see(x.of(1, 0));
    }

    private static void as(String what, GasTown x, long got, long answer) {
        same(what, got, answer);
        long[] now = taleOf(x);
        for (int i = 0; i < seen; i++) {
            if (now[i] != due[i]) {
                same(what + " left a trace: the answer that is seen as number " + i, now[i], due[i]);
                return;
            }
        }
        same(what + " left no trace", 0, 0);
    }

    /** A call that is refused, and what it answers. */
    private static void refused(String what, long answer, ToLongFunction<GasTown> call) {
        GasTown x = full ? fullTown() : busy();
        as(what, x, call.applyAsLong(x), answer);
    }

    /** A call that answers NONE. */
    private static void noneOf(String what, ToLongFunction<GasTown> call) {
        refused(what, -1, call);
    }

    /** A call that answers false. */
    private static void falseOf(String what, java.util.function.Predicate<GasTown> call) {
        refused(what, 0, x -> call.test(x) ? 1 : 0);
    }

    // ---- what is refused ----

    private static void works() {
        says(2, "false, and nothing is done, if one can't be");
        int[][] coals = {{-1, 50, 5, 5}, {3, 50, 5, 5}, {0, 9, 5, 5}, {0, 201, 5, 5}, {1, 50, -1, 5}, {1, 50, 81, 5},
            {2, 50, 5, -1}, {2, 50, 5, 21}, {LEAST, 50, 5, 5}, {GREATEST, 50, 5, 5}, {0, LEAST, 5, 5}, {0, GREATEST, 5, 5},
            {0, 50, LEAST, 5}, {0, 50, GREATEST, 5}, {0, 50, 5, LEAST}, {0, 50, 5, GREATEST}};
        for (int[] c : coals) {
            falseOf("coal " + java.util.Arrays.toString(c), x -> x.coal(c[0], c[1], c[2], c[3]));
        }
        says(3, "NONE, and nothing is done, if one can't be, or it would have more than 9999");
        int[][] buys = {{-1, 5, 5}, {3, 5, 5}, {0, 0, 5}, {0, -1, 5}, {0, 10000, 5}, {0, 5, -1}, {0, 5, 1000}, {0, 9999, 5},
            {LEAST, 5, 5}, {GREATEST, 5, 5}, {0, LEAST, 5}, {0, GREATEST, 5}, {0, 5, LEAST}, {0, 5, GREATEST}};
        for (int[] b : buys) {
            noneOf("buy " + java.util.Arrays.toString(b), x -> x.buy(b[0], b[1], b[2]));
        }
        says(5, "NONE, and nothing is done");
        int[][] charges = {{-1, 0, 1}, {4, 0, 1}, {6, 0, 1}, {3, -1, 1}, {3, 3, 1}, {3, 0, 0}, {3, 0, -1}, {3, 0, 10}, {3, 2, 6},
            {2, 0, 1}, {1, 0, 1}, {LEAST, 0, 1}, {GREATEST, 0, 1}, {3, LEAST, 1}, {3, GREATEST, 1}, {3, 0, LEAST},
            {3, 0, GREATEST}};
        for (int[] c : charges) {
            noneOf("charge " + java.util.Arrays.toString(c), x -> x.charge(c[0], c[1], c[2]));
        }
        says(6, "false if it can't be");
        int[] hands = {-1, 31, LEAST, GREATEST};
        for (int n : hands) {
            falseOf("hands " + n, x -> x.hands(n));
        }
        says(7, "false if it can't be");
        int[] capacities = {-1, 100000, LEAST, GREATEST};
        for (int c : capacities) {
            falseOf("holder " + c, x -> x.holder(c));
        }
        says(17, "NONE, and nothing is done, if one can't be");
        int[] steps = {0, -1, 97, LEAST, GREATEST};
        for (int n : steps) {
            noneOf("steps " + n, x -> x.steps(n));
        }
        says(21, "NONE, and nothing is done, if one can't be (hundredths 1 and more), or there is less");
        int[][] sells = {{0, 1}, {-1, 1}, {871, 1}, {1, -1}, {1, 100}, {LEAST, 1}, {GREATEST, 1}, {1, LEAST}, {1, GREATEST}};
        for (int[] s : sells) {
            noneOf("sell " + java.util.Arrays.toString(s), x -> x.sell(s[0], s[1]));
        }
    }

    private static void net() {
        says(8, "false, and nothing is done, if one can't be");
        int[][] rounds = {{39, 20}, {81, 20}, {50, 9}, {50, 41}, {LEAST, 20}, {GREATEST, 20}, {50, LEAST}, {50, GREATEST}};
        for (int[] r : rounds) {
            falseOf("round " + java.util.Arrays.toString(r), x -> x.round(r[0], r[1]));
        }
        says(9, "false if one can't be");
        int[][] fogs = {{-1, 3}, {42, 3}, {0, -1}, {0, 4}, {LEAST, 3}, {GREATEST, 3}, {0, LEAST}, {0, GREATEST}};
        for (int[] f : fogs) {
            falseOf("fog " + java.util.Arrays.toString(f), x -> x.fog(f[0], f[1]));
        }
        says(10, "false if it can't be");
        int[] gates = {-1, 100, LEAST, GREATEST};
        for (int p : gates) {
            falseOf("gate " + p, x -> x.gate(p));
        }
        says(11, "NONE if one can't be");
        int[][] nodes = {{-1, 1, 0}, {5, 1, 0}, {16, 1, 0}, {0, 0, 0}, {0, 10, 0}, {0, 1, -10}, {0, 1, 10}, {LEAST, 1, 0},
            {GREATEST, 1, 0}, {0, LEAST, 0}, {0, GREATEST, 0}, {0, 1, LEAST}, {0, 1, GREATEST}};
        for (int[] n : nodes) {
            noneOf("node " + java.util.Arrays.toString(n), x -> x.node(n[0], n[1], n[2]));
        }
        says(12, "false if there is none such, or it is so");
        int[] dry = {-1, 0, 1, 5, 16, LEAST, GREATEST};
        for (int n : dry) {
            falseOf("no water in " + n, x -> x.water(n, false));
        }
        int[] wet = {-1, 0, 3, 5, 16, LEAST, GREATEST};
        for (int n : wet) {
            falseOf("water in " + n, x -> x.water(n, true));
        }
    }

    private static void things() {
        says(13, "NONE if one can't be");
        int[][] things = {{-1, 0, 9, 0}, {5, 0, 9, 0}, {1, -1, 9, 0}, {1, 4, 9, 0}, {1, 0, -1, 0}, {1, 0, 100, 0}, {1, 0, 9, 1},
            {1, 0, 9, -1}, {1, 2, 9, 1}, {1, 3, 9, 1}, {1, 1, 9, -1}, {1, 1, 9, 16}, {LEAST, 0, 9, 0}, {GREATEST, 0, 9, 0},
            {1, LEAST, 9, 0}, {1, GREATEST, 9, 0}, {1, 0, LEAST, 0}, {1, 0, GREATEST, 0}, {1, 1, 9, LEAST}, {1, 1, 9, GREATEST}};
        for (int[] t : things) {
            noneOf("thing " + java.util.Arrays.toString(t), x -> x.thing(t[0], t[1], t[2], t[3]));
        }
        says(14, "false if there is none such, or it is so");
        int[] cuts = {-1, 7, 8, 40, LEAST, GREATEST};
        for (int t : cuts) {
            falseOf("cut " + t, x -> x.cut(t, true));
        }
        int[] backs = {-1, 0, 8, 40, LEAST, GREATEST};
        for (int t : backs) {
            falseOf("not cut " + t, x -> x.cut(t, false));
        }
        says(15, "NONE, and nothing is done, if it is none, or one can't be");
        int[][] coins = {{-1, 5}, {0, 5}, {1, 5}, {3, 5}, {8, 5}, {2, 0}, {2, -1}, {2, 100}, {LEAST, 5}, {GREATEST, 5},
            {2, LEAST}, {2, GREATEST}};
        for (int[] c : coins) {
            noneOf("coin " + java.util.Arrays.toString(c), x -> x.coin(c[0], c[1]));
        }
        says(16, "false if it is none, or it is so");
        int[] frosts = {-1, 1, 2, 3, 4, 8, LEAST, GREATEST};
        for (int t : frosts) {
            falseOf("frost " + t, x -> x.frost(t, true));
        }
        int[] thaws = {-1, 0, 1, 2, 3, 8, LEAST, GREATEST};
        for (int t : thaws) {
            falseOf("no frost " + t, x -> x.frost(t, false));
        }
    }

    private static void books() {
        says(18, "NONE if it is none");
        int[] reads = {-1, 1, 2, 3, 8, LEAST, GREATEST};
        for (int t : reads) {
            noneOf("read " + t, x -> x.read(t));
        }
        says(19, "false, and nothing is done, if there is none such, one can't be");
        int[][] rights = {{-1, 0, 5}, {8, 0, 5}, {1, 0, 5}, {0, -1, 5}, {0, 2, 5}, {7, 0, 5}, {0, 1, -1}, {0, 1, 1000000},
            {LEAST, 0, 5}, {GREATEST, 0, 5}, {0, LEAST, 5}, {0, GREATEST, 5}, {0, 1, LEAST}, {0, 1, GREATEST}};
        for (int[] r : rights) {
            falseOf("right " + java.util.Arrays.toString(r), x -> x.right(r[0], r[1], r[2]));
        }
        says(27, "NONE if it can't be");
        int[] tries = {-1, 100, LEAST, GREATEST};
        for (int v : tries) {
            noneOf("tries " + v, x -> x.tries(v));
        }
        says(27, "a TRY that is enough adds nothing");
        refused("tries 14", 0, x -> x.tries(14));
        refused("tries 99", 0, x -> x.tries(99));
    }

    private static void acts() {
        says(23, "false, changing nothing, if it has not so many, or n is below 0");
        int[] ends = {20, 600, -1, LEAST, GREATEST};
        for (int n : ends) {
            falseOf("end " + n, x -> x.end(n));
        }
        refused("end 19 of 19", 1, x -> x.end(19) ? 1 : 0);
        says(24, "NONE: no such ACT or DAY, or a FAULT (it stays as it was)");
        int[][] acts = {{-1, 0}, {4, 0}, {0, -1}, {0, 42}, {LEAST, 0}, {GREATEST, 0}, {0, LEAST}, {0, GREATEST}};
        for (int[] a : acts) {
            noneOf("act " + java.util.Arrays.toString(a), x -> retold(x, x.act(a[0], a[1])));
        }
        for (int n = 0; n <= 3; n++) {
            int act = n;
            noneOf("act " + n + " with a fault", x -> forgiven(x, x.act(act, 0)));
        }
    }

    /** The tape, which act() emptied, as it was. */
    private static long retold(GasTown x, long answer) {
        tape(x, "fine 1; fine 2; fin");
        return answer;
    }

    /** The tape and the fault as they were. */
    private static long forgiven(GasTown x, long answer) {
        same("a fault", x.fault(0), 1);
        x.act(4, 0);
        return retold(x, answer);
    }

    private static void plans() {
        says(34, "false if one can't be");
        int[][] sees = {{0, 0}, {-1, 0}, {5, 0}, {16, 0}, {1, 2}, {1, -2}, {LEAST, 0}, {GREATEST, 0}, {1, LEAST}, {1, GREATEST}};
        for (int[] s : sees) {
            falseOf("sees " + java.util.Arrays.toString(s), x -> x.sees(s[0], s[1]));
        }
        says(36, "NONE if one can't be");
        int[][] works = {{0, 1, 1}, {-1, 1, 1}, {5, 1, 1}, {16, 1, 1}, {1, 0, 1}, {1, 10, 1}, {1, 1, 0}, {1, 1, 1000},
            {LEAST, 1, 1}, {GREATEST, 1, 1}, {1, LEAST, 1}, {1, GREATEST, 1}, {1, 1, LEAST}, {1, 1, GREATEST}};
        for (int[] w : works) {
            noneOf("work " + java.util.Arrays.toString(w), x -> x.work(w[0], w[1], w[2]));
        }
    }

    /** Questions, also such as can't be asked, change nothing. */
    private static void questions() {
        says(32, "questions change nothing, whatever they are asked");
        int[] odd = {-1, 0, 1, 5, 27, 100, LEAST, GREATEST};
        for (int a : odd) {
            for (int b : odd) {
                refused("questions of " + a + " and " + b, 0, x -> ask(x, a, b));
            }
        }
    }

    private static int ask(GasTown x, int a, int b) {
        x.bill(a, b, 27, 3);
        x.bill(0, 1, a, b);
        x.fault(a);
        x.due(a, b, 0, 0);
        x.due(2, a, b, 0);
        x.due(3, 100, a, b);
        x.share(a);
        x.at(a, b);
        x.of(a, b);
        x.why(a, b);
        x.best(a, b, 0);
        x.best(1, a, b);
        x.find(a);
        x.find(b);
        x.choice(a, b, 0);
        x.choice(30, a, b);
        x.look(a);
        x.last();
        return 0;
    }

    private static void fullTowns() {
        says(4, "NONE if there are six");
        noneOf("bench", GasTown::bench);
        says(11, "NONE if one can't be, or there are 15 beside the gate");
        noneOf("node", x -> x.node(0, 1, 0));
        says(13, "NONE if one can't be, or there are 40");
        noneOf("thing", x -> x.thing(0, 0, 1, 0));
        says(36, "NONE if one can't be, or there are eight");
        noneOf("work", x -> x.work(1, 9, 1));
        says(3, "or it would have more than 9999");
        for (int k = 0; k <= 2; k++) {
            int coal = k;
            noneOf("buy " + k, x -> x.buy(coal, 1, 9));
            noneOf("buy " + k, x -> x.buy(coal, 9999, 9));
        }
        says(22, "NONE, and nothing comes, if there would be more than 600");
        noneOf("feed", x -> x.feed(1, 2, 3, 4, 5));
        refused("end 600", 1, x -> x.end(600) ? 1 : 0);
        falseOf("end 601", x -> x.end(601));
        says(5, "a full STOCK does not help a BENCH that is not there");
        noneOf("charge 6", x -> x.charge(6, 0, 1));
    }

    private static void fullBooks() {
        says(18, "NONE if it is none, or there are 200");
        GasTown x = booked();
        GasTown y = booked();
        none("the 201st", y.read(0));
        none("the 201st", y.read(1));
        says(19, "false, and nothing is done, if there are 100");
        no("the 101st", y.right(0, 0, 999));
        no("the 101st", y.right(1, 99, 999));
        int now = (int) x.look(0);
        same("now", y.look(0), now);
        for (int j = 0; j <= 100; j += 9) {
            for (int t = 0; t <= 1; t++) {
                same("number", y.bill(t, j, now, 1), x.bill(t, j, now, 1));
                same("units", y.bill(t, j, now, 3), x.bill(t, j, now, 3));
            }
        }
        none("no reading 100", y.bill(0, 100, now, 0));
        same("gain", y.share(0), x.share(0));
    }
}
