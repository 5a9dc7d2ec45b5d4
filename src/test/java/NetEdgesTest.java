/** The edges of the net, of things and of a step, sentence by sentence: promises 10 to 17 and 29 to 31. */
public final class NetEdgesTest extends Check {
    public static void main(String[] args) {
        gate();
        node();
        water();
        thing();
        cut();
        coin();
        frost();
        houseByHours();
        slotAtMostCredit();
        pressures();
        taking();
        flows();
        longWay();
        sweeps();
        darkness();
        darkKeeps();
        fails();
        failsAndDue();
        at();
        of();
        why();
        whyLosses();
        whyNewNodes();
        end();
    }

    private static void gate() {
        GasTown x = new GasTown();
        says(10, "THE GATE's PRESSURE: true; false if it can't be");
        no("-1", x.gate(-1));
        no("100", x.gate(100));
        no("the greatest int", x.gate(Integer.MAX_VALUE));
        x.steps(1);
        same("as at first", x.at(0, 0), 40);
        yes("0", x.gate(0));
        same("the last step's still", x.at(0, 0), 40);
        x.steps(1);
        same("0", x.at(0, 0), 0);
        yes("99", x.gate(99));
        yes("99 again", x.gate(99));
        no("100", x.gate(100));
        x.steps(1);
        same("99", x.at(0, 0), 99);
    }

    private static void node() {
        GasTown x = new GasTown();
        says(11, "A NODE with its PIPE: its number; NONE if one can't be");
        none("parent -1", x.node(-1, 1, 0));
        none("itself", x.node(1, 1, 0));
        none("one behind it", x.node(2, 1, 0));
        none("resistance 0", x.node(0, 0, 0));
        none("resistance 10", x.node(0, 10, 0));
        none("resistance -1", x.node(0, -1, 0));
        none("height -10", x.node(0, 1, -10));
        none("height 10", x.node(0, 1, 10));
        same("the gate alone", x.look(14), 1);
        same("least", x.node(0, 1, -9), 1);
        same("greatest", x.node(1, 9, 9), 2);
        none("itself", x.node(3, 1, 0));
        says(11, "or there are 15 beside the gate");
        for (int n = 3; n <= 15; n++) {
            same("node", x.node(n - 1, 5, 0), n);
            same("nodes", x.look(14), n + 1);
        }
        none("the sixteenth", x.node(0, 1, 0));
        none("the sixteenth", x.node(15, 1, 0));
        same("nodes", x.look(14), 16);
        same("parent of the last", x.at(15, 3), 14);
        none("node 16", x.at(16, 0));
    }

    private static void water() {
        GasTown x = new GasTown();
        says(12, "true; false if there is none such, or it is so");
        no("the gate", x.water(0, true));
        no("the gate", x.water(0, false));
        no("a node that is not there", x.water(1, true));
        no("-1", x.water(-1, true));
        no("16", x.water(16, true));
        x.node(0, 1, 0);
        same("none at first", x.at(1, 2), 0);
        no("a node that is not there", x.water(2, true));
        no("it is so", x.water(1, false));
        yes("water", x.water(1, true));
        same("water", x.at(1, 2), 1);
        no("it is so", x.water(1, true));
        same("water", x.at(1, 2), 1);
        yes("no water", x.water(1, false));
        same("no water", x.at(1, 2), 0);
        no("it is so", x.water(1, false));
        same("water of the gate", x.at(0, 2), 0);
        says(12, "from now on");
        GasTown y = rich();
        y.node(0, 1, 0);
        y.steps(1);
        y.water(1, true);
        same("the last step's pressure stays", y.at(1, 0), 40);
        y.steps(1);
        same("no pressure in the next", y.at(1, 0), 0);
        y.steps(1);
        same("nor in the one behind it", y.at(1, 0), 0);
        y.water(1, false);
        y.steps(1);
        same("it is back", y.at(1, 0), 40);
    }

    private static void thing() {
        GasTown x = new GasTown();
        x.node(0, 1, 0);
        says(13, "A THING: its number; NONE if one can't be");
        none("node -1", x.thing(-1, 0, 1, 0));
        none("node 2", x.thing(2, 0, 1, 0));
        none("kind -1", x.thing(0, -1, 1, 0));
        none("kind 4", x.thing(0, 4, 1, 0));
        none("w -1", x.thing(0, 0, -1, 0));
        none("w 100", x.thing(0, 0, 100, 0));
        says(13, "place is 0 but for a LAMP");
        int[] kinds = {0, 2, 3};
        for (int kind : kinds) {
            none("place 1 of kind " + kind, x.thing(0, kind, 1, 1));
            none("place -1 of kind " + kind, x.thing(0, kind, 1, -1));
        }
        says(0, "1 LAMP with a PLACE k (0 .. 15) in the round");
        none("place -1", x.thing(0, 1, 1, -1));
        none("place 16", x.thing(0, 1, 1, 16));
        same("things", x.look(13), 0);
        same("place 0", x.thing(0, 1, 99, 0), 0);
        same("place 15", x.thing(0, 1, 99, 15), 1);
        says(13, "the gate may have some");
        int t = 2;
        for (int kind = 0; kind <= 3; kind++) {
            same("w 0 of kind " + kind, x.thing(0, kind, 0, 0), t++);
            same("w 99 of kind " + kind, x.thing(1, kind, 99, 0), t++);
        }
        same("wants 0", x.of(2, 0), 0);
        same("a leak of 99", x.of(9, 0), 99);
        says(13, "or there are 40");
        for (; t < 40; t++) {
            same("thing", x.thing(1, t % 4, 1, 0), t);
        }
        none("the 41st", x.thing(0, 0, 1, 0));
        none("the 41st", x.thing(1, 3, 1, 0));
        same("things", x.look(13), 40);
        none("thing 40", x.of(40, 0));
    }

    private static void cut() {
        GasTown x = rich();
        for (int kind = 0; kind <= 3; kind++) {
            x.thing(0, kind, 20, 0);
        }
        x.coin(2, 9);
        x.fog(0, 2);
        says(14, "true; false if there is none such, or it is so");
        no("-1", x.cut(-1, true));
        no("4", x.cut(4, true));
        no("4", x.cut(4, false));
        for (int t = 0; t <= 3; t++) {
            no("it is so", x.cut(t, false));
            same("wants", x.of(t, 0), t % 2 == 1 ? 20 : 40);
            yes("cut", x.cut(t, true));
            no("it is so", x.cut(t, true));
            says(0, "A THING that is CUT wants 0");
            same("wants", x.of(t, 0), 0);
            says(14, "true; false if there is none such, or it is so");
        }
        x.steps(1);
        says(0, "LEAK TAKES its W (0 if CUT)");
        for (int t = 0; t <= 3; t++) {
            same("took", x.of(t, 1), 0);
            yes("back", x.cut(t, false));
            no("it is so", x.cut(t, false));
        }
        same("credit stays", x.of(2, 3), 450);
        x.steps(1);
        for (int t = 0; t <= 3; t++) {
            same("took", x.of(t, 1), t % 2 == 1 ? (t == 3 ? 40 : 20) : 40);
        }
    }

    private static void coin() {
        GasTown x = rich();
        for (int kind = 0; kind <= 3; kind++) {
            x.thing(0, kind, 20, 0);
        }
        says(15, "NONE, and nothing is done, if it is none");
        none("a house", x.coin(0, 1));
        none("a lamp", x.coin(1, 1));
        none("a leak", x.coin(3, 1));
        none("thing 4", x.coin(4, 1));
        none("thing -1", x.coin(-1, 1));
        for (int t = 0; t <= 3; t++) {
            same("credit", x.of(t, 3), 0);
        }
        says(15, "COINS (1 .. 99) for a SLOT: its CREDIT");
        none("0", x.coin(2, 0));
        none("-1", x.coin(2, -1));
        none("100", x.coin(2, 100));
        none("the greatest int", x.coin(2, Integer.MAX_VALUE));
        same("nothing is done", x.of(2, 3), 0);
        same("one", x.coin(2, 1), 50);
        none("100", x.coin(2, 100));
        same("99 more", x.coin(2, 99), 5000);
        same("credit", x.of(2, 3), 5000);
        says(0, "50 for each COIN, less what it took");
        x.steps(1);
        same("took", x.of(2, 1), 20);
        same("less 20", x.of(2, 3), 4980);
        same("50 more", x.coin(2, 1), 5030);
    }

    private static void frost() {
        GasTown x = rich();
        for (int kind = 0; kind <= 3; kind++) {
            x.thing(0, kind, 20, 0);
        }
        x.coin(2, 9);
        says(16, "true; false if it is none, or it is so");
        for (int t = -1; t <= 4; t++) {
            if (t != 0) {
                no("thing " + t, x.frost(t, true));
                no("thing " + t, x.frost(t, false));
            }
        }
        no("it is so", x.frost(0, false));
        x.steps(1);
        same("the meter counts", x.of(0, 2), 20);
        yes("frozen", x.frost(0, true));
        no("it is so", x.frost(0, true));
        says(0, "the METER of a HOUSE counts what it TAKES, unless it is FROZEN");
        x.steps(2);
        same("the meter stands", x.of(0, 2), 20);
        same("it took all the same", x.of(0, 4), 60);
        yes("warm", x.frost(0, false));
        no("it is so", x.frost(0, false));
        same("what went by is not counted", x.of(0, 2), 20);
        x.steps(1);
        same("the meter counts", x.of(0, 2), 40);
        x.gate(10);
        x.steps(1);
        same("it counts what is taken, not what is wanted", x.of(0, 2), 50);
        for (int t = 1; t <= 3; t++) {
            same("no meter of " + t, x.of(t, 2), 0);
        }
    }

    private static void houseByHours() {
        says(0, "0 HOUSE: by the HOUR: 0 .. 5 W / 4, 6 .. 9 W, 10 .. 15 and 23 W / 2, 16 .. 22 W times 2");
        GasTown x = new GasTown();
        x.thing(0, 0, 7, 0);
        x.thing(0, 2, 7, 0);
        x.thing(0, 0, 99, 0);
        x.thing(0, 0, 3, 0);
        x.thing(0, 0, 1, 0);
        x.coin(1, 9);
        int[] firsts = {0, 6, 10, 16, 23, 24};
        int[][] due = {{1, 24, 0, 0}, {7, 99, 3, 1}, {3, 49, 1, 0}, {14, 198, 6, 2}, {3, 49, 1, 0}};
        for (int i = 0; i < due.length; i++) {
            wantsInHour(x, due[i]);
            int lastStep = 4 * firsts[i + 1] - 1;
            if (x.look(0) < lastStep) {
                x.steps(lastStep - (int) x.look(0));
            }
            wantsInHour(x, due[i]);
            x.steps(1);
        }
        wantsInHour(x, due[0]);
    }

    /** In each FOG what is wanted at this time of the day, by what it is ahead of the FOG. */
    private static void wantsInHour(GasTown x, int[] due) {
        int day = (int) x.look(0) / 96;
        for (int f = 3; f >= 0; f--) {
            x.fog(day, f);
            same("7 in fog " + f + " at " + x.look(0), x.of(0, 0), due[0] * (2 + f) / 2);
            same("slot", x.of(1, 0), due[0] * (2 + f) / 2);
            same("99", x.of(2, 0), due[1] * (2 + f) / 2);
            same("3", x.of(3, 0), due[2] * (2 + f) / 2);
            same("1", x.of(4, 0), due[3] * (2 + f) / 2);
        }
    }

    private static void slotAtMostCredit() {
        says(0, "2 SLOT: as a HOUSE, but at most its CREDIT");
        GasTown x = rich();
        x.thing(0, 2, 49, 0);
        same("no credit", x.of(0, 0), 0);
        x.steps(1);
        same("took none", x.of(0, 1), 0);
        x.coin(0, 2);
        same("100 for 49", x.of(0, 0), 49);
        x.steps(1);
        same("took", x.of(0, 1), 49);
        same("51 for 49", x.of(0, 0), 49);
        x.steps(1);
        same("2 for 49", x.of(0, 0), 2);
        x.steps(1);
        same("took", x.of(0, 1), 2);
        same("credit", x.of(0, 3), 0);
        same("0 for 49", x.of(0, 0), 0);
        x.steps(1);
        same("took none", x.of(0, 1), 0);
        same("took in all", x.of(0, 4), 100);
        x.coin(0, 1);
        x.gate(10);
        x.steps(1);
        same("half of what it wants", x.of(0, 1), 24);
        same("credit less what it took", x.of(0, 3), 26);
    }

    private static void pressures() {
        says(0, "it is 0, if its PIPE has WATER or its PARENT's PRESSURE is 0");
        GasTown x = rich();
        x.node(0, 1, 0);
        x.node(1, 1, 9);
        x.node(0, 1, -9);
        x.node(3, 1, 9);
        x.node(0, 1, 9);
        x.water(1, true);
        x.steps(1);
        same("water", x.at(1, 0), 0);
        same("its parent has 0, it lies higher", x.at(2, 0), 0);
        x.gate(9);
        x.steps(1);
        same("9 less 9", x.at(3, 0), 0);
        same("its parent has 0, it lies higher", x.at(4, 0), 0);
        x.gate(5);
        x.steps(1);
        says(0, "but never below 0");
        same("5 less 9", x.at(3, 0), 0);
        same("its parent has 0", x.at(4, 0), 0);
        x.gate(10);
        x.steps(1);
        says(0, "and its HEIGHT less its PARENT's added");
        same("10 less 9", x.at(3, 0), 1);
        same("1 and 18", x.at(4, 0), 19);
        same("10 and 9", x.at(5, 0), 19);
        x.gate(0);
        x.steps(1);
        says(0, "or its PARENT's PRESSURE is 0");
        same("a gate of 0", x.at(5, 0), 0);
        says(0, "it is 0, if its PIPE has WATER");
        x.gate(40);
        x.water(5, true);
        x.steps(1);
        same("water, though it lies higher", x.at(5, 0), 0);
        says(0, "and its HEIGHT less its PARENT's added, but never below 0");
        x.gate(1);
        x.node(0, 9, 9);
        x.thing(6, 0, 99, 0);
        x.steps(1);
        // 34 are taken: 1 less 3 and 9 more
        same("less than nothing, and 9", x.at(6, 0), 7);
        same("flow", x.at(6, 1), 34);
        says(0, "its PARENT's less RESISTANCE times FLOW by 100");
        GasTown y = rich();
        y.node(0, 9, 0);
        y.node(0, 1, 0);
        y.thing(1, 0, 11, 0);
        y.thing(2, 0, 99, 0);
        y.steps(1);
        same("99 by 100", y.at(1, 0), 40);
        same("99 by 100", y.at(2, 0), 40);
        y.thing(1, 0, 1, 0);
        y.thing(2, 0, 1, 0);
        y.steps(1);
        same("108 by 100", y.at(1, 0), 39);
        same("100 by 100", y.at(2, 0), 39);
        y.thing(2, 0, 99, 0);
        y.steps(1);
        same("199 by 100", y.at(2, 0), 39);
        y.thing(2, 0, 1, 0);
        y.steps(1);
        same("200 by 100", y.at(2, 0), 38);
    }

    private static void taking() {
        GasTown x = rich();
        x.thing(0, 0, 7, 0);
        x.thing(0, 3, 7, 0);
        x.thing(0, 1, 7, 0);
        x.thing(0, 2, 7, 0);
        x.thing(0, 0, 1, 0);
        x.thing(0, 3, 99, 0);
        x.coin(3, 9);
        x.fog(0, 2);
        int[] gates = {99, 21, 20, 19, 10, 1, 0};
        for (int p : gates) {
            x.gate(p);
            x.steps(1);
            int part = Math.min(20, p);
            says(0, "another THING what it WANTS, or, below a PRESSURE of 20, that times PRESSURE by 20");
            same("house of 14 at " + p, x.of(0, 1), 14 * part / 20);
            same("lamp of 7 at " + p, x.of(2, 1), 7 * part / 20);
            same("slot of 14 at " + p, x.of(3, 1), 14 * part / 20);
            same("house of 2 at " + p, x.of(4, 1), 2 * part / 20);
            says(0, "then a LEAK TAKES its W (0 if CUT) times PRESSURE by 20");
            same("leak of 7 at " + p, x.of(1, 1), 7 * p / 20);
            same("leak of 99 at " + p, x.of(5, 1), 99 * p / 20);
            same("it wants its W", x.of(5, 0), 99);
        }
        same("no dark step", x.look(5), 0);
    }

    private static void flows() {
        says(0, "the FLOW of a PIPE is what all THINGS at its NODE and at those behind it TAKE");
        GasTown x = rich();
        x.node(0, 1, 0);
        x.node(1, 1, 0);
        x.node(1, 1, 0);
        x.node(0, 1, 0);
        int[] nodes = {0, 0, 1, 1, 2, 3, 3, 4};
        int[] w = {1, 2, 4, 8, 16, 3, 29, 64};
        for (int t = 0; t < w.length; t++) {
            x.thing(nodes[t], 0, w[t], 0);
        }
        x.steps(1);
        says(29, "1 the FLOW of its PIPE in it by what was TAKEN (of the gate all that was TAKEN)");
        same("flow of the gate", x.at(0, 1), 127);
        same("flow of 1", x.at(1, 1), 60);
        same("flow of 2", x.at(2, 1), 16);
        same("flow of 3", x.at(3, 1), 32);
        same("flow of 4", x.at(4, 1), 64);
        same("taken", x.look(4), 127);
        same("level", x.look(1), 21600 - 127);
        x.gate(10);
        x.cut(5, true);
        x.water(2, true);
        x.steps(1);
        same("flow of 1", x.at(1, 1), 2 + 4 + 14);
        same("flow of 2", x.at(2, 1), 0);
        same("flow of 3", x.at(3, 1), 14);
        same("flow of 4", x.at(4, 1), 32);
        same("flow of the gate", x.at(0, 1), 0 + 1 + 20 + 32);
    }

    private static void longWay() {
        says(0, "at its NODE and at those behind it, up to the 15th");
        GasTown x = rich();
        for (int n = 1; n <= 15; n++) {
            x.node(n - 1, 1, 0);
            x.thing(n, 0, n, 0);
        }
        tell(x, 0, 0, "pressure 99;");
        x.steps(1);
        for (int n = 1; n <= 15; n++) {
            same("flow of " + n, x.at(n, 1), 120 - n * (n - 1) / 2);
        }
        same("flow of the gate", x.at(0, 1), 120);
        says(0, "Each NODE counts as a FAIL");
        same("fifteen", x.look(7), 15);
        x.water(1, true);
        x.steps(1);
        for (int n = 1; n <= 15; n++) {
            same("behind water", x.why(n, 1), 1);
            same("pressure", x.at(n, 0), 0);
        }
        same("thirty", x.look(7), 30);
    }

    private static void sweeps() {
        says(0, "The SWEEPS end behind the first one in which all PRESSURES are as in the SWEEP ahead (it SETTLED)");
        GasTown x = new GasTown();
        x.steps(1);
        same("the gate alone settles in the second", x.look(6), 0);
        GasTown y = rich();
        y.node(0, 1, 0);
        y.thing(1, 0, 20, 0);
        y.steps(1);
        same("a house settles in the second", y.look(6), 0);
        says(0, "or behind the 12th");
        GasTown z = rich();
        z.node(0, 9, 0);
        z.thing(1, 3, 99, 0);
        z.thing(1, 3, 49, 0);
        z.gate(99);
        z.steps(1);
        same("settled in the 12th", z.look(6), 0);
        same("pressure", z.at(1, 0), 60);
        same("taken", z.look(4), 99 * 60 / 20 + 49 * 60 / 20);
        GasTown w = rich();
        w.node(0, 9, 0);
        w.thing(1, 3, 99, 0);
        w.thing(1, 3, 52, 0);
        w.gate(99);
        w.steps(1);
        same("it would settle in the 13th", w.look(6), 1);
        same("the next one too", w.steps(1), 34);
        same("two", w.look(6), 2);
        says(0, "all PRESSURES: at two nodes one goes on when the other stands");
        GasTown v = rich();
        v.node(0, 9, 0);
        v.node(0, 1, 0);
        v.thing(1, 3, 99, 0);
        v.thing(1, 3, 52, 0);
        v.thing(2, 0, 10, 0);
        v.gate(99);
        v.steps(1);
        same("the first goes on", v.look(6), 1);
        same("as without the second", v.at(1, 0), w.at(1, 0));
        GasTown u = rich();
        u.node(0, 1, 0);
        u.node(0, 9, 0);
        u.thing(2, 3, 99, 0);
        u.thing(2, 3, 52, 0);
        u.thing(1, 0, 10, 0);
        u.gate(99);
        u.steps(1);
        same("the second goes on", u.look(6), 1);
        same("as without the first", u.at(2, 0), w.at(1, 0));
        says(0, "as in the SWEEP ahead: the first has none ahead of it, not the last STEP's");
        GasTown t = rich();
        t.node(0, 9, 0);
        t.thing(1, 0, 50, 0);
        t.thing(1, 3, 50, 0);
        t.cut(1, true);
        t.gate(30);
        t.steps(1);
        same("a house of 50", t.at(1, 0), 26);
        t.cut(0, true);
        t.cut(1, false);
        t.steps(1);
        same("a leak of 50 takes more in the second", t.at(1, 0), 25);
        same("taken", t.at(1, 1), 62);
        says(0, "or behind the 12th");
        int p = 0;
        int leak = 99 + 52;
        for (int sweep = 1; sweep <= 12; sweep++) {
            p = 99 - 9 * leak / 100;
            leak = 99 * p / 20 + 52 * p / 20;
        }
        same("pressure of the 12th", w.at(1, 0), p);
        same("they take by the 12th", w.at(1, 1), leak);
    }

    private static void darkness() {
        says(0, "If LEVEL is below that, the STEP is DARK");
        GasTown x = filled(100);
        x.thing(0, 3, 50, 0);
        x.steps(1);
        same("100 of 100 is not dark", x.look(5), 0);
        same("level", x.look(1), 0);
        same("pressure", x.at(0, 0), 40);
        GasTown y = filled(99);
        y.thing(0, 3, 50, 0);
        y.steps(1);
        same("100 of 99 is dark", y.look(5), 1);
        same("level stays", y.look(1), 99);
        same("pressure", y.at(0, 0), 0);
        y.gate(39);
        y.steps(1);
        same("97 of 99 is not", y.look(5), 1);
        same("level", y.look(1), 2);
        same("USED is what all TAKE, not what they want", y.look(4), 97);
        says(0, "the gas that all CHARGES make in it is added to LEVEL");
        GasTown z = new GasTown();
        z.holder(99999);
        z.buy(0, 9, 0);
        z.bench();
        z.coal(0, 72, 0, 0);
        z.charge(0, 0, 5);
        z.gate(20);
        z.thing(0, 3, 5, 0);
        z.steps(1);
        same("the gas of the step itself does", z.look(5), 0);
        same("level", z.look(1), 0);
        z.thing(0, 3, 6, 0);
        z.steps(1);
        same("11 of 10 is dark", z.look(5), 1);
        same("level", z.look(1), 10);
        says(0, "what is above CAPACITY STANDS OFF");
        z.holder(24);
        z.thing(0, 3, 14, 0);
        z.steps(1);
        same("25 of 24, though 25 came", z.look(5), 2);
        same("one stood off", z.look(3), 1);
        z.cut(0, true);
        z.cut(1, true);
        z.steps(1);
        same("14 of 24", z.look(1), 10);
        says(0, "nobody wants anything, and nothing is there: not DARK");
        GasTown w = new GasTown();
        w.steps(5);
        same("dark", w.look(5), 0);
    }

    private static void darkKeeps() {
        says(0, "nobody TAKES, all PRESSURES are 0");
        GasTown x = filled(200);
        x.node(0, 1, 9);
        x.thing(1, 0, 40, 0);
        x.thing(1, 2, 40, 0);
        x.thing(0, 3, 30, 0);
        x.coin(1, 1);
        x.steps(1);
        same("level", x.look(1), 200 - 10 - 10 - 60);
        x.thing(0, 3, 99, 0);
        tell(x, 0, 0, "pressure 1;");
        x.steps(1);
        same("dark", x.look(5), 1);
        same("level", x.look(1), 120);
        same("taken", x.look(4), 80);
        for (int n = 0; n <= 1; n++) {
            same("pressure", x.at(n, 0), 0);
            same("flow", x.at(n, 1), 0);
        }
        for (int t = 0; t <= 3; t++) {
            same("took", x.of(t, 1), 0);
            same("took in all", x.of(t, 4), t < 2 ? 10 : t == 2 ? 60 : 0);
        }
        same("meter", x.of(0, 2), 10);
        same("credit", x.of(1, 3), 40);
        says(0, "counts as a FAIL");
        same("in the dark too", x.look(7), 1);
        says(31, "1 the STEP was DARK");
        same("why", x.why(1, 0), 1);
        same("why of the gate", x.why(0, 0), 1);
        none("where", x.why(1, 1));
        none("where", x.why(0, 1));
        x.water(1, true);
        x.steps(1);
        same("ahead of water", x.why(1, 0), 1);
        none("ahead of water", x.why(1, 1));
        x.cut(3, true);
        x.steps(1);
        same("no more", x.why(1, 0), 2);
        same("no more", x.why(0, 0), 0);
        same("two dark steps", x.look(5), 2);
    }

    private static void fails() {
        GasTown x = rich();
        x.node(0, 1, 0);
        x.thing(1, 0, 4, 0);
        says(0, "if its PRESSURE is below THE DUE of pressure in this STEP");
        tell(x, 0, 0, "pressure 40;");
        x.steps(1);
        same("40 of 40", x.look(7), 0);
        tell(x, 0, 0, "pressure 41;");
        x.steps(1);
        same("40 of 41", x.look(7), 1);
        says(0, "a THING that WANTS more than 0");
        x.cut(0, true);
        x.steps(1);
        same("it is cut", x.look(7), 1);
        x.thing(1, 0, 0, 0);
        x.thing(1, 2, 9, 0);
        x.thing(1, 1, 9, 0);
        x.steps(1);
        same("nobody wants", x.look(7), 1);
        x.thing(1, 0, 1, 0);
        x.steps(1);
        same("one wants 1", x.look(7), 2);
        says(0, "Each NODE counts as a FAIL, not each THING");
        x.cut(0, false);
        x.steps(1);
        same("two want", x.look(7), 3);
        says(0, "and is no LEAK");
        x.node(0, 1, -9);
        x.thing(2, 3, 9, 0);
        x.steps(1);
        same("a leak alone", x.look(7), 4);
        says(0, "(not the gate)");
        x.thing(0, 0, 9, 0);
        x.steps(1);
        same("the gate", x.look(7), 5);
        says(0, "Each NODE with a THING that WANTS");
        x.node(1, 1, 0);
        x.thing(3, 2, 9, 0);
        x.coin(7, 1);
        // at 10 o'clock the house of 1 wants 0, the one of 4 wants 2
        x.steps(1);
        same("two nodes", x.look(7), 7);
        x.cut(0, true);
        x.cut(7, true);
        x.steps(1);
        same("none", x.look(7), 7);
    }

    private static void failsAndDue() {
        says(0, "(without one: no FAIL)");
        GasTown x = rich();
        x.node(0, 1, 0);
        x.thing(1, 0, 40, 0);
        x.water(1, true);
        x.steps(1);
        same("no act", x.look(7), 0);
        tell(x, 0, 1, "pressure 9;");
        x.steps(1);
        same("not in force yet", x.look(7), 0);
        tell(x, 0, 0, "pressure 9 when hour = 9; price 50;");
        x.steps(2);
        same("at 8", x.look(7), 0);
        x.steps(4);
        same("at 9", x.look(7), 4);
        x.steps(1);
        same("at 10", x.look(7), 4);
        tell(x, 0, 0, "pressure 0;");
        x.steps(1);
        same("0 is not below 0", x.look(7), 4);
        tell(x, 0, 0, "pressure 1 + short;");
        x.steps(1);
        same("0 is below 1", x.look(7), 5);
        tell(x, 0, 0, "pressure short;");
        x.steps(1);
        same("nothing is short in it", x.look(7), 5);
        tell(x, 0, 0, "pressure fog + day;");
        x.steps(1);
        same("no fog", x.look(7), 5);
        x.fog(0, 1);
        x.steps(1);
        same("fog of its day", x.look(7), 6);
    }

    private static void at() {
        GasTown x = new GasTown();
        x.node(0, 1, 5);
        says(29, "0 its PRESSURE in the last STEP (0 ahead of the first)");
        same("gate", x.at(0, 0), 0);
        same("node", x.at(1, 0), 0);
        same("flow", x.at(1, 1), 0);
        x.gate(30);
        same("still", x.at(0, 0), 0);
        x.steps(1);
        same("gate", x.at(0, 0), 30);
        same("node", x.at(1, 0), 35);
        x.gate(50);
        same("as it was", x.at(0, 0), 30);
        says(31, "A NODE that came since had no PRESSURE, FLOW and WATER");
        x.node(1, 1, 0);
        same("pressure", x.at(2, 0), 0);
        same("flow", x.at(2, 1), 0);
        x.steps(1);
        same("pressure", x.at(2, 0), 50);
        says(29, "3 its PARENT (NONE of the gate)");
        none("gate", x.at(0, 3));
        same("1", x.at(1, 3), 0);
        same("2", x.at(2, 3), 1);
        says(29, "2 WATER (1 or 0; 0 of the gate)");
        same("gate", x.at(0, 2), 0);
        same("1", x.at(1, 2), 0);
        x.water(1, true);
        same("1", x.at(1, 2), 1);
        same("2", x.at(2, 2), 0);
        says(29, "NONE if there is none such, or another what");
        for (int what = 0; what <= 3; what++) {
            none("node -1", x.at(-1, what));
            none("node 3", x.at(3, what));
            none("node 16", x.at(16, what));
        }
        none("what 4", x.at(0, 4));
        none("what -1", x.at(0, -1));
        none("what 4", x.at(1, 4));
        none("the least int", x.at(Integer.MIN_VALUE, 0));
        none("the greatest int", x.at(Integer.MAX_VALUE, 0));
    }

    private static void of() {
        GasTown x = rich();
        for (int kind = 0; kind <= 3; kind++) {
            x.thing(0, kind, 20, 3);
            x.thing(0, kind, 20, 0);
        }
        says(30, "1 what it TOOK in the last STEP (0 ahead of it)");
        for (int t = 0; t < 5; t++) {
            same("took", x.of(t, 1), 0);
            same("took in all", x.of(t, 4), 0);
            same("meter", x.of(t, 2), 0);
            same("credit", x.of(t, 3), 0);
        }
        x.coin(3, 3);
        x.fog(0, 2);
        x.steps(1);
        // 0 house, 1 lamp at place 3, 2 lamp, 3 slot, 4 leak
        int[] took = {40, 20, 20, 40, 40};
        for (int t = 0; t < 5; t++) {
            same("took", x.of(t, 1), took[t]);
            same("took in all", x.of(t, 4), took[t]);
            says(30, "2 its METER (a HOUSE; else 0), 3 its CREDIT (a SLOT; else 0)");
            same("meter", x.of(t, 2), t == 0 ? 40 : 0);
            same("credit", x.of(t, 3), t == 3 ? 110 : 0);
        }
        x.fog(0, 0);
        says(30, "0 what it WANTS NOW");
        int[] wants = {20, 0, 0, 20, 20};
        for (int t = 0; t < 5; t++) {
            same("wants", x.of(t, 0), wants[t]);
            same("took in the last", x.of(t, 1), took[t]);
        }
        x.steps(1);
        for (int t = 0; t < 5; t++) {
            says(30, "4 all that it TOOK");
            same("took in all", x.of(t, 4), took[t] + (t == 4 ? 40 : wants[t]));
        }
        says(30, "NONE if there is none such, or another what");
        for (int what = 0; what <= 4; what++) {
            none("thing -1", x.of(-1, what));
            none("thing 5", x.of(5, what));
        }
        none("what 5", x.of(0, 5));
        none("what -1", x.of(0, -1));
        none("the least int", x.of(Integer.MIN_VALUE, 0));
        none("the greatest int", x.of(Integer.MAX_VALUE, 0));
    }

    private static void why() {
        says(31, "NONE, too, ahead of the first STEP");
        GasTown x = new GasTown();
        x.node(0, 1, 0);
        none("gate", x.why(0, 0));
        none("node", x.why(1, 0));
        none("node", x.why(1, 1));
        x.gate(20);
        x.steps(1);
        says(31, "0 its PRESSURE was 20 or more");
        same("20", x.why(0, 0), 0);
        same("20", x.why(1, 0), 0);
        none("no place", x.why(1, 1));
        none("no place", x.why(0, 1));
        x.gate(19);
        x.steps(1);
        says(31, "3 else");
        same("19", x.why(0, 0), 3);
        same("19", x.why(1, 0), 3);
        says(31, "NONE for the gate");
        none("gate", x.why(0, 1));
        same("node", x.why(1, 1), 1);
        says(31, "if there is none such, or another what");
        none("node 2", x.why(2, 0));
        none("node 2", x.why(2, 1));
        none("node -1", x.why(-1, 0));
        none("what 2", x.why(0, 2));
        none("what -1", x.why(0, -1));
        none("what 2", x.why(1, 2));
        none("the least int", x.why(Integer.MIN_VALUE, 0));
        none("the greatest int", x.why(Integer.MAX_VALUE, 1));
        says(31, "2 a PIPE on its way had WATER in it; the NODE of that PIPE nearest to the gate");
        x.gate(40);
        x.node(1, 1, 0);
        x.node(2, 1, 0);
        x.node(1, 1, 0);
        x.water(3, true);
        x.steps(1);
        same("its own pipe", x.why(3, 0), 2);
        same("its own pipe", x.why(3, 1), 3);
        same("none ahead of it", x.why(2, 0), 0);
        x.water(2, true);
        same("it had none", x.why(2, 0), 0);
        same("as it was", x.why(3, 1), 3);
        x.steps(1);
        same("nearest to the gate", x.why(3, 1), 2);
        same("its own", x.why(2, 1), 2);
        none("what -1", x.why(3, -1));
        none("what 2", x.why(3, 2));
        x.gate(10);
        x.steps(1);
        same("the long way", x.why(3, 1), 2);
        same("the short way has none", x.why(1, 0), 3);
        same("its own pipe", x.why(1, 1), 1);
        none("what -1", x.why(1, -1));
        x.gate(40);
        x.steps(1);
        x.water(2, false);
        x.water(3, false);
        same("it had", x.why(2, 0), 2);
        same("it had", x.why(3, 1), 2);
        same("a side way", x.why(4, 0), 0);
        x.steps(1);
        same("no more", x.why(3, 0), 0);
    }

    private static void whyLosses() {
        says(31, "the NODE on its way (itself too) whose PIPE loses most (RESISTANCE as it was, times FLOW by 100");
        GasTown x = rich();
        x.node(0, 1, 0);
        x.node(1, 2, 0);
        x.node(1, 3, 0);
        x.node(3, 9, 0);
        x.node(4, 1, 0);
        x.thing(2, 0, 99, 0);
        x.thing(3, 0, 50, 0);
        x.thing(4, 0, 50, 0);
        x.thing(5, 0, 1, 0);
        x.gate(20);
        x.steps(1);
        for (int n = 1; n <= 5; n++) {
            int place = -1;
            long most = -1;
            int[][] ways = {{}, {1}, {1, 2}, {1, 3}, {1, 3, 4}, {1, 3, 4, 5}};
            int[] resistance = {0, 1, 2, 3, 9, 1};
            for (int m : ways[n]) {
                long loss = resistance[m] * x.at(m, 1) / 100;
                if (loss > most) {
                    most = loss;
                    place = m;
                }
            }
            same("reason of " + n, x.why(n, 0), 3);
            same("place of " + n, x.why(n, 1), place);
        }
        same("the pipe of 4 loses most", x.why(5, 1), 4);
        says(31, "of several the nearest to the gate");
        GasTown y = rich();
        y.node(0, 1, 9);
        y.node(1, 2, -9);
        y.thing(2, 3, 99, 0);
        y.thing(1, 0, 60, 0);
        y.gate(30);
        y.steps(1);
        // 30 and 9 less 1 are 38, less 18 and less 1 are 19: the leak takes 94
        same("pressure of 2", y.at(2, 0), 19);
        same("flow of 1: it loses 154 by 100", y.at(1, 1), 154);
        same("flow of 2: it loses 188 by 100", y.at(2, 1), 94);
        same("the nearest", y.why(2, 1), 1);
        GasTown z = rich();
        z.node(0, 1, 9);
        z.node(1, 2, -9);
        z.thing(2, 3, 99, 0);
        z.thing(2, 3, 6, 0);
        z.thing(1, 0, 40, 0);
        z.gate(30);
        z.steps(1);
        same("flow of 1: it loses 139 by 100", z.at(1, 1), 139);
        same("flow of 2: it loses 198 by 100", z.at(2, 1), 99);
        same("the nearest", z.why(2, 1), 1);
        says(31, "whose PIPE loses most");
        GasTown w = rich();
        w.node(0, 1, 9);
        w.node(1, 2, -9);
        w.thing(2, 3, 53, 0);
        w.gate(29);
        w.steps(1);
        same("flow of 1: it loses 50 by 100", w.at(1, 1), 50);
        same("flow of 2: it loses 100 by 100", w.at(2, 1), 50);
        same("the farther one", w.why(2, 1), 2);
    }

    private static void whyNewNodes() {
        says(31, "A NODE that came since had no PRESSURE, FLOW and WATER");
        GasTown x = rich();
        x.node(0, 9, 0);
        x.thing(1, 0, 20, 0);
        x.water(1, true);
        x.steps(1);
        same("node 2", x.node(1, 9, 0), 2);
        same("behind water", x.why(2, 0), 2);
        same("behind water", x.why(2, 1), 1);
        same("node 3", x.node(0, 9, 0), 3);
        x.water(3, true);
        same("it had no water", x.why(3, 0), 3);
        same("it had no flow", x.why(3, 1), 3);
        x.water(3, false);
        x.water(1, false);
        x.steps(1);
        same("pressure", x.why(3, 0), 0);
        same("node 4", x.node(1, 9, 0), 4);
        same("it had no pressure", x.why(4, 0), 3);
        same("its parent's pipe lost 1", x.why(4, 1), 1);
        same("node 5", x.node(3, 9, 0), 5);
        same("none lost: the nearest", x.why(5, 1), 3);
        GasTown y = new GasTown();
        y.thing(0, 3, 9, 0);
        y.steps(1);
        same("node 1", y.node(0, 1, 0), 1);
        same("in a dark step", y.why(1, 0), 1);
    }
}
