/** Each promise of the document by hand: what is ordinary, the edges, and what can't be. */
public final class PromisesTest extends Check {
    private static void fails(String text, int fault, int place) {
        GasTown x = new GasTown();
        same("act of " + text, tell(x, 0, 0, text), -1);
        same("fault of " + text, x.fault(0), fault);
        same("place in " + text, x.fault(1), place);
    }

    private static void stands(String text, int lines) {
        GasTown x = new GasTown();
        same("act of " + text, tell(x, 0, 0, text), lines);
        same("fault of " + text, x.fault(0), 0);
        same("place in " + text, x.fault(1), -1);
    }

    private static int priceBy(String expression) {
        GasTown x = new GasTown();
        same("act of " + expression, tell(x, 0, 0, "fine " + expression + ";"), 1);
        return x.due(3, 0, 5, 0);
    }

    public static void main(String[] args) {
        newObject();
        works();
        holderAndSky();
        net();
        settling();
        dark();
        thingsAndCoins();
        stepsAndFails();
        readings();
        rights();
        yard();
        tapeAndEnd();
        grammar();
        faults();
        expressions();
        dues();
        tries();
        shares();
        why();
        best();
        last();
        find();
        choice();
        look();
        end();
    }

    private static void newObject() {
        says(1, "by hand");
        GasTown x = new GasTown();
        none("NONE", GasTown.NONE);
        for (int what = 0; what < 16; what++) {
            same("look " + what, x.look(what), what == 14 ? 1 : 0);
        }
        same("gate's parent", x.at(0, 3), -1);
        same("gate's pressure", x.at(0, 0), 0);
        same("gate's flow", x.at(0, 1), 0);
        same("gate's water", x.at(0, 2), 0);
        same("no node 1", x.at(1, 0), -1);
        same("no node -1", x.at(-1, 0), -1);
        same("no what 4", x.at(0, 4), -1);
        same("no thing", x.of(0, 0), -1);
        same("fault", x.fault(0), 0);
        same("place", x.fault(1), -1);
        same("fault of 2", x.fault(2), -1);
        same("due", x.due(2, 0, 0, 1), -1);
    }

    private static void works() {
        says(2, "by hand");
        GasTown x = new GasTown();
        no("coal 3", x.coal(3, 100, 0, 0));
        no("coal -1", x.coal(-1, 100, 0, 0));
        no("gas 9", x.coal(1, 9, 0, 0));
        no("gas 201", x.coal(1, 201, 0, 0));
        no("coke 81", x.coal(1, 100, 81, 0));
        no("coke -1", x.coal(1, 100, -1, 0));
        no("tar 21", x.coal(1, 100, 0, 21));
        no("tar -1", x.coal(1, 100, 0, -1));
        yes("greatest", x.coal(1, 200, 80, 20));
        yes("least", x.coal(2, 10, 0, 0));
        says(3, "by hand");
        same("no coal", x.buy(3, 1, 1), -1);
        same("tons 0", x.buy(0, 0, 1), -1);
        same("tons 10000", x.buy(0, 10000, 1), -1);
        same("price 1000", x.buy(0, 1, 1000), -1);
        same("price -1", x.buy(0, 1, -1), -1);
        same("all", x.buy(0, 9999, 999), 9999);
        same("spent", x.look(10), 9999L * 999);
        same("one more", x.buy(0, 1, 0), -1);
        same("others", x.buy(1, 20, 2), 20);
        same("others", x.buy(1, 5, 0), 25);
        same("third", x.buy(2, 1, 0), 1);
        same("spent", x.look(10), 9999L * 999 + 40);
        says(5, "by hand");
        same("no bench", x.charge(0, 0, 1), -1);
        says(4, "by hand");
        for (int b = 0; b < 6; b++) {
            same("bench", x.bench(), b);
        }
        same("seventh", x.bench(), -1);
        says(5, "by hand");
        same("bench 6", x.charge(6, 0, 1), -1);
        same("bench -1", x.charge(-1, 0, 1), -1);
        same("coal 3", x.charge(0, 3, 1), -1);
        same("coal -1", x.charge(0, -1, 1), -1);
        same("tons 0", x.charge(0, 0, 0), -1);
        same("tons 10", x.charge(0, 0, 10), -1);
        same("stock", x.charge(0, 2, 2), -1);
        same("ordinary", x.charge(0, 1, 7), 1400);
        same("stock left", x.buy(1, 1, 0), 19);
        same("not cold", x.charge(0, 1, 1), -1);
        same("second", x.charge(1, 2, 1), 10);
        same("no hands", x.charge(2, 0, 1), -1);
        says(6, "by hand");
        no("-1 hands", x.hands(-1));
        no("31 hands", x.hands(31));
        yes("8 hands", x.hands(8));
        same("8 are too few for three", x.charge(2, 0, 1), -1);
        yes("9 hands", x.hands(9));
        same("9 do", x.charge(2, 0, 1), 100);
        yes("0 hands", x.hands(0));
        same("none", x.charge(3, 0, 1), -1);
        yes("30 hands", x.hands(30));
        says(2, "by hand");
        yes("later numbers", x.coal(1, 10, 1, 1));
        x.holder(99999);
        int[] parts = {1, 3, 6, 10, 15, 21, 28, 36, 44, 51, 57, 62, 66, 69, 71, 72};
        says(17, "by hand");
        for (int i = 0; i < 16; i++) {
            same("burning", x.look(15), 3);
            same("step", x.steps(1), i + 1);
            same("gas of three", x.look(2), 1400 * parts[i] / 72 + 10 * parts[i] / 72 + 100 * parts[i] / 72);
            same("coke", x.look(8), i < 15 ? 0 : 7 * 80 + 60);
        }
        same("cold", x.look(15), 0);
        same("tar", x.look(9), 7 * 20 + 5);
        says(5, "by hand");
        x.hands(6);
        same("again", x.charge(0, 1, 9), 90);
        same("again", x.charge(1, 1, 9), 90);
        same("no hands again", x.charge(3, 0, 1), -1);
        x.steps(1);
        same("hands of the next step", x.charge(3, 0, 1), 100);
    }

    private static void holderAndSky() {
        says(7, "by hand");
        GasTown x = new GasTown();
        no("-1", x.holder(-1));
        no("100000", x.holder(100000));
        yes("0", x.holder(0));
        x.buy(0, 9, 0);
        x.bench();
        x.charge(0, 0, 9);
        x.steps(16);
        same("all stood off", x.look(3), 900);
        same("level", x.look(1), 0);
        x.holder(99999);
        x.buy(0, 9, 0);
        x.charge(0, 0, 9);
        x.steps(16);
        same("level", x.look(1), 900);
        yes("less", x.holder(300));
        same("level", x.look(1), 300);
        same("stood off", x.look(3), 1500);
        yes("more", x.holder(400));
        same("level", x.look(1), 300);

        says(8, "by hand");
        no("39", x.round(39, 28));
        no("81", x.round(81, 28));
        no("9", x.round(64, 9));
        no("41", x.round(64, 41));
        GasTown y = new GasTown();
        same("lamp", y.thing(0, 1, 7, 2), 0);
        no("nothing is done", y.round(40, 41));
        same("dawn 28, place 2", y.of(0, 0), 7);
        y.steps(29);
        same("29", y.of(0, 0), 7);
        y.steps(1);
        same("30", y.of(0, 0), 0);
        y.steps(35);
        same("65", y.of(0, 0), 0);
        y.steps(1);
        same("66", y.of(0, 0), 7);
        yes("later dusk", y.round(65, 10));
        same("66 of 67", y.of(0, 0), 0);
        y.steps(1);
        same("67", y.of(0, 0), 7);
        y.steps(29);
        same("next day", y.of(0, 0), 7);
        y.steps(12);
        same("12 of the next day", y.of(0, 0), 0);

        says(9, "by hand");
        no("day -1", y.fog(-1, 0));
        no("day 42", y.fog(42, 0));
        no("fog -1", y.fog(0, -1));
        no("fog 4", y.fog(0, 4));
        yes("day 41", y.fog(41, 3));
        yes("fog 1", y.fog(1, 1));
        same("lamp in fog 1", y.of(0, 0), 0);
        yes("fog 2", y.fog(1, 2));
        same("lamp in fog 2", y.of(0, 0), 7);
        yes("other day", y.fog(2, 3));
        yes("fog 0", y.fog(1, 0));
        same("lamp in fog 0", y.of(0, 0), 0);
    }

    private static void net() {
        says(10, "by hand");
        GasTown x = new GasTown();
        no("-1", x.gate(-1));
        no("100", x.gate(100));
        yes("99", x.gate(99));
        x.steps(1);
        same("pressure", x.at(0, 0), 99);
        yes("0", x.gate(0));
        same("of the last step", x.at(0, 0), 99);
        x.steps(1);
        same("pressure", x.at(0, 0), 0);
        says(11, "by hand");
        same("parent 1", x.node(1, 1, 0), -1);
        same("parent -1", x.node(-1, 1, 0), -1);
        same("resistance 0", x.node(0, 0, 0), -1);
        same("resistance 10", x.node(0, 10, 0), -1);
        same("height -10", x.node(0, 1, -10), -1);
        same("height 10", x.node(0, 1, 10), -1);
        for (int n = 1; n < 16; n++) {
            same("node", x.node(n - 1, 9, 9 - n), n);
            same("parent", x.at(n, 3), n - 1);
        }
        same("sixteenth", x.node(0, 1, 1), -1);
        same("nodes", x.look(14), 16);
        says(12, "by hand");
        no("gate", x.water(0, true));
        no("16", x.water(16, true));
        no("-1", x.water(-1, true));
        no("it is so", x.water(15, false));
        yes("water", x.water(15, true));
        no("it is so", x.water(15, true));
        same("water", x.at(15, 2), 1);
        yes("no water", x.water(15, false));
        same("no water", x.at(15, 2), 0);
        says(13, "by hand");
        same("node 16", x.thing(16, 0, 1, 0), -1);
        same("node -1", x.thing(-1, 0, 1, 0), -1);
        same("kind -1", x.thing(0, -1, 1, 0), -1);
        same("kind 4", x.thing(0, 4, 1, 0), -1);
        same("w -1", x.thing(0, 0, -1, 0), -1);
        same("w 100", x.thing(0, 0, 100, 0), -1);
        same("place of a house", x.thing(0, 0, 1, 1), -1);
        same("place of a slot", x.thing(0, 2, 1, 15), -1);
        same("place of a leak", x.thing(0, 3, 1, 2), -1);
        same("place 16", x.thing(0, 1, 1, 16), -1);
        same("place -1", x.thing(0, 1, 1, -1), -1);
        for (int t = 0; t < 40; t++) {
            same("thing", x.thing(t % 16, t % 4, 99 - t, t % 4 == 1 ? 15 : 0), t);
        }
        same("forty-first", x.thing(0, 0, 1, 0), -1);
        same("things", x.look(13), 40);
    }

    private static void settling() {
        says(0, "settling");
        GasTown x = rich();
        same("level", x.look(1), 21600);
        x.node(0, 9, 5);
        x.node(1, 3, -5);
        x.node(1, 1, 9);
        x.thing(1, 3, 30, 0);
        x.thing(2, 0, 60, 0);
        x.thing(3, 0, 50, 0);
        x.thing(0, 3, 10, 0);
        x.gate(30);
        x.steps(1);
        // by hand: 8 o'clock, houses want 60 and 50; sweep 1: flow 1 is 30 + 60 + 50 = 140: 30 - 12 + 5 = 23, ..
        int[] p = {0, 0, 0, 0};
        int leak1 = 30;
        int leak0 = 10;
        int h2 = 60;
        int h3 = 50;
        boolean settled = false;
        for (int sweep = 0; sweep < 12 && !settled; sweep++) {
            int p1 = Math.max(0, 30 - 9 * (leak1 + h2 + h3) / 100 + 5);
            int p2 = p1 == 0 ? 0 : Math.max(0, p1 - 3 * h2 / 100 - 10);
            int p3 = p1 == 0 ? 0 : Math.max(0, p1 - h3 / 100 + 4);
            settled = sweep > 0 && p1 == p[1] && p2 == p[2] && p3 == p[3];
            p = new int[] {30, p1, p2, p3};
            leak1 = 30 * p1 / 20;
            leak0 = 10 * 30 / 20;
            h2 = p2 < 20 ? 60 * p2 / 20 : 60;
            h3 = p3 < 20 ? 50 * p3 / 20 : 50;
        }
        for (int n = 0; n < 4; n++) {
            same("pressure " + n, x.at(n, 0), p[n]);
        }
        same("leak", x.of(0, 1), leak1);
        same("house 2", x.of(1, 1), h2);
        same("house 3", x.of(2, 1), h3);
        same("leak at the gate", x.of(3, 1), leak0);
        same("flow 1", x.at(1, 1), leak1 + h2 + h3);
        same("flow 0", x.at(0, 1), leak1 + h2 + h3 + leak0);
        same("taken", x.look(4), leak1 + h2 + h3 + leak0);
        same("level", x.look(1), 21600 - x.look(4));
        same("unsettled", x.look(6), settled ? 0 : 1);
        x.water(1, true);
        x.steps(1);
        for (int n = 1; n < 4; n++) {
            same("pressure behind water", x.at(n, 0), 0);
            same("flow behind water", x.at(n, 1), 0);
        }
        same("flow 0", x.at(0, 1), 15);
        x.water(1, false);
        x.cut(0, true);
        x.cut(3, true);
        x.steps(1);
        same("a cut leak", x.of(0, 1), 0);
        same("a cut leak at the gate", x.of(3, 1), 0);
        // a pipe that can't settle: with gas the pressure falls below 0, without it is full
        GasTown y = rich();
        y.node(0, 9, 0);
        for (int i = 0; i < 6; i++) {
            y.thing(1, 0, 99, 0);
        }
        y.steps(1);
        same("unsettled", y.look(6), 1);
        GasTown z = rich();
        for (int n = 0; n < 15; n++) {
            z.node(n, 1, 0);
        }
        z.thing(15, 0, 99, 0);
        z.thing(15, 0, 99, 0);
        z.steps(1);
        same("fifteen pipes lose one each", z.at(15, 0), 25);
        same("flow of the last", z.at(15, 1), 198);
        same("flow of the first", z.at(1, 1), 198);
        z.sees(15, 0);
        same("one of fifteen", z.find(1), 15);
        same("the last", z.find(25), 1);
        same("pressure behind the 12th", y.at(1, 0), 40);
        same("they take by it", y.at(1, 1), 594);
    }

    private static void dark() {
        says(0, "dark");
        GasTown x = new GasTown();
        x.holder(1000);
        x.buy(0, 9, 0);
        x.bench();
        x.charge(0, 0, 9);
        x.node(0, 1, 0);
        x.thing(1, 0, 48, 0);
        x.steps(1);
        same("12 is enough for 12", x.look(5), 0);
        same("level", x.look(1), 0);
        same("took", x.of(0, 1), 12);
        x.thing(0, 3, 99, 0);
        tell(x, 0, 0, "pressure 1;");
        x.steps(1);
        same("dark", x.look(5), 1);
        same("level", x.look(1), 25);
        same("taken", x.look(4), 12);
        same("took", x.of(0, 1), 0);
        same("took in all", x.of(0, 4), 12);
        same("meter", x.of(0, 2), 12);
        same("gate", x.at(0, 0), 0);
        same("node", x.at(1, 0), 0);
        same("flow", x.at(0, 1), 0);
        same("fail", x.look(7), 1);
        same("why", x.why(1, 0), 1);
        same("why, where", x.why(1, 1), -1);
        same("why of the gate", x.why(0, 0), 1);
    }

    private static void thingsAndCoins() {
        says(30, "by hand");
        GasTown x = new GasTown();
        x.thing(0, 0, 11, 0);
        x.thing(0, 2, 99, 0);
        x.thing(0, 3, 13, 0);
        x.thing(0, 1, 5, 0);
        int[] hours = new int[24];
        for (int h = 0; h < 24; h++) {
            hours[h] = h < 6 ? 2 : h < 10 ? 11 : h < 16 || h == 23 ? 5 : 22;
        }
        for (int h = 0; h < 24; h++) {
            for (int f = 3; f >= 0; f--) {
                x.fog(0, f);
                same("house at " + h + " in fog " + f, x.of(0, 0), hours[h] * (2 + f) / 2);
            }
            same("leak", x.of(2, 0), 13);
            same("no credit", x.of(1, 0), 0);
            x.steps(4);
        }
        same("no thing 4", x.of(4, 0), -1);
        same("no thing -1", x.of(-1, 0), -1);
        same("no what 5", x.of(0, 5), -1);
        same("no what -1", x.of(0, -1), -1);
        says(14, "by hand");
        no("4", x.cut(4, true));
        no("-1", x.cut(-1, true));
        no("it is so", x.cut(0, false));
        yes("cut", x.cut(0, true));
        same("cut", x.of(0, 0), 0);
        yes("cut leak", x.cut(2, true));
        same("cut leak", x.of(2, 0), 0);
        yes("back", x.cut(0, false));
        same("back", x.of(0, 0), 2);
        says(15, "by hand");
        same("a house", x.coin(0, 1), -1);
        same("a lamp", x.coin(3, 1), -1);
        same("none", x.coin(9, 1), -1);
        same("0", x.coin(1, 0), -1);
        same("100", x.coin(1, 100), -1);
        same("nothing is done", x.of(1, 3), 0);
        same("one", x.coin(1, 1), 50);
        same("99", x.coin(1, 99), 5000);
        same("credit of a house", x.of(0, 3), 0);
        says(30, "by hand");
        GasTown y = rich();
        y.thing(0, 2, 60, 0);
        y.thing(0, 0, 10, 0);
        y.coin(0, 2);
        same("wants", y.of(0, 0), 60);
        y.steps(1);
        same("took", y.of(0, 1), 60);
        same("credit", y.of(0, 3), 40);
        same("wants the credit", y.of(0, 0), 40);
        same("no meter", y.of(0, 2), 0);
        y.gate(10);
        y.steps(1);
        same("took half", y.of(0, 1), 20);
        same("credit", y.of(0, 3), 20);
        same("took in all", y.of(0, 4), 80);
        same("a house took half", y.of(1, 1), 5);
        same("meter", y.of(1, 2), 15);
        says(16, "by hand");
        no("a slot", y.frost(0, true));
        no("none", y.frost(2, true));
        no("it is so", y.frost(1, false));
        yes("frozen", y.frost(1, true));
        no("it is so", y.frost(1, true));
        y.steps(1);
        same("frozen meter", y.of(1, 2), 15);
        same("it took", y.of(1, 4), 20);
        yes("warm", y.frost(1, false));
        y.steps(1);
        same("meter", y.of(1, 2), 20);
    }

    private static void stepsAndFails() {
        says(17, "by hand");
        GasTown x = new GasTown();
        same("0", x.steps(0), -1);
        same("97", x.steps(97), -1);
        same("-1", x.steps(-1), -1);
        for (int i = 1; i <= 41; i++) {
            same("a day", x.steps(96), 96 * i);
        }
        same("above 3999", x.steps(64), -1);
        same("3999", x.steps(63), 3999);
        same("no more", x.steps(1), -1);
        same("now", x.look(0), 3999);
        says(0, "fails");
        GasTown y = rich();
        y.node(0, 1, 0);
        y.node(0, 1, -9);
        y.node(0, 1, 1);
        y.thing(1, 0, 4, 0);
        y.thing(1, 0, 4, 0);
        y.thing(2, 3, 4, 0);
        y.thing(3, 2, 4, 0);
        y.thing(0, 0, 4, 0);
        y.steps(1);
        same("without a due", y.look(7), 0);
        tell(y, 0, 0, "pressure 40 + short;");
        y.steps(1);
        same("at the due", y.look(7), 0);
        tell(y, 0, 0, "pressure 99;");
        y.steps(1);
        same("one node with houses, no leak, no slot without coins, no gate", y.look(7), 1);
        y.coin(3, 1);
        y.steps(1);
        same("and the slot", y.look(7), 3);
        y.cut(0, true);
        y.steps(1);
        same("one house is left", y.look(7), 5);
        y.cut(1, true);
        y.steps(1);
        same("the slot alone", y.look(7), 6);
        tell(y, 0, 0, "pressure 99 when hour < 3;");
        y.steps(1);
        same("no line tells", y.look(7), 6);
    }

    private static void readings() {
        says(18, "by hand");
        GasTown x = rich();
        x.thing(0, 0, 10, 0);
        x.thing(0, 2, 10, 0);
        x.thing(0, 0, 20, 0);
        tell(x, 0, 0, "price 3 + short when hour < 10; price 99999;");
        tell(x, 1, 1, "price 0 - 5;");
        same("a slot", x.read(1), -1);
        same("none", x.read(3), -1);
        same("none", x.read(-1), -1);
        same("first", x.read(0), 0);
        x.steps(2);
        same("first of another", x.read(2), 0);
        same("second", x.read(0), 1);
        same("in the same step", x.read(0), 2);
        x.frost(0, true);
        same("frozen", x.read(0), 3);
        x.steps(6);
        same("frozen", x.read(0), 4);
        says(20, "by hand");
        same("step", x.bill(0, 0, 32, 0), 32);
        same("number", x.bill(0, 0, 32, 1), 0);
        same("not frozen", x.bill(0, 0, 32, 2), 0);
        same("no units of 0", x.bill(0, 0, 40, 3), -1);
        same("no bill of 0", x.bill(0, 0, 40, 4), -1);
        same("number", x.bill(0, 1, 40, 1), 20);
        same("units", x.bill(0, 1, 40, 3), 20);
        same("bill", x.bill(0, 1, 40, 4), 60);
        same("not yet", x.bill(0, 1, 33, 1), -1);
        same("known -1", x.bill(0, 0, -1, 1), -1);
        same("known ahead", x.bill(0, 0, 41, 1), -1);
        same("what 5", x.bill(0, 1, 40, 5), -1);
        same("what -1", x.bill(0, 1, 40, -1), -1);
        same("no such", x.bill(0, 5, 40, 1), -1);
        same("no such", x.bill(0, -1, 40, 1), -1);
        same("no such", x.bill(1, 0, 40, 1), -1);
        same("no such", x.bill(40, 0, 40, 1), -1);
        same("frozen", x.bill(0, 3, 40, 2), 1);
        same("frozen units of no steps", x.bill(0, 3, 40, 3), 0);
        same("frozen, no steps between 2 and 3", x.bill(0, 4, 40, 3), 0);
        x.frost(0, false);
        x.steps(1);
        same("sixth", x.read(0), 5);
        x.frost(0, true);
        x.steps(3);
        same("seventh", x.read(0), 6);
        same("units", x.bill(0, 5, 44, 3), 5);
        same("clamped price", x.bill(0, 5, 44, 4), 5 * 9999);
        same("three times so long", x.bill(0, 6, 44, 3), 15);
        same("seen as it stands", x.bill(0, 6, 44, 1), 25);
        x.steps(52);
        same("on day 1", x.read(2), 1);
        same("price below 0", x.bill(2, 1, 96, 4), 0);
        x.frost(2, true);
        x.steps(1);
        same("frozen", x.read(2), 2);
        same("by 94 steps", x.bill(2, 2, 97, 3), x.bill(2, 1, 97, 3) / 62);
        GasTown y = new GasTown();
        y.thing(0, 0, 1, 0);
        y.thing(0, 0, 1, 0);
        y.frost(0, true);
        y.read(0);
        y.read(0);
        same("frozen behind 0", y.bill(0, 1, 0, 3), 0);
        says(18, "by hand");
        for (int i = 2; i < 200; i++) {
            same("in all", y.read(i % 2), i % 2 == 0 ? i / 2 + 1 : i / 2 - 1);
        }
        same("201st", y.read(0), -1);
        same("201st", y.read(1), -1);
    }

    private static void rights() {
        says(19, "by hand");
        GasTown x = rich();
        x.thing(0, 0, 10, 0);
        x.read(0);
        x.steps(4);
        x.read(0);
        x.steps(4);
        x.read(0);
        no("no such", x.right(0, 3, 1));
        no("no such", x.right(1, 0, 1));
        no("no such", x.right(0, -1, 1));
        no("below 0", x.right(0, 1, -1));
        no("too much", x.right(0, 1, 1000000));
        yes("right", x.right(0, 1, 70));
        says(20, "by hand");
        same("right now", x.bill(0, 1, 40, 1), 70);
        same("not then", x.bill(0, 1, 39, 1), 40);
        same("units", x.bill(0, 1, 40, 3), 70);
        same("units of the next", x.bill(0, 2, 40, 3), 10);
        yes("once more", x.right(0, 1, 50));
        same("the latest", x.bill(0, 1, 40, 1), 50);
        same("units of the next", x.bill(0, 2, 40, 3), 30);
        x.steps(1);
        yes("later", x.right(0, 1, 999999));
        same("then", x.bill(0, 1, 40, 1), 50);
        same("now", x.bill(0, 1, 41, 1), 999999);
        same("never below 0", x.bill(0, 2, 41, 3), 0);
        says(19, "by hand");
        for (int i = 3; i < 100; i++) {
            yes("a hundred", x.right(0, 0, i));
        }
        no("101st", x.right(0, 0, 0));
    }

    private static void yard() {
        says(21, "by hand");
        GasTown x = new GasTown();
        same("nothing to sell", x.sell(1, 1), -1);
        x.buy(0, 5, 0);
        x.bench();
        x.charge(0, 0, 5);
        x.steps(16);
        same("0", x.sell(0, 1), -1);
        same("price -1", x.sell(1, -1), -1);
        same("price 100", x.sell(1, 100), -1);
        same("too much", x.sell(301, 1), -1);
        same("left", x.sell(100, 99), 200);
        same("sold", x.look(11), 9900);
        same("one", x.sell(1, 1), 199);
        same("sold", x.look(11), 9901);
        same("the rest", x.sell(199, 0), 0);
        same("coke", x.look(8), 0);
    }

    private static void tapeAndEnd() {
        says(22, "by hand");
        GasTown x = new GasTown();
        for (int i = 1; i <= 30; i++) {
            same("feed", x.feed(0x20202020, 0x20202020, 0x20202020, 0x20202020, 0x20202020), 20 * i);
        }
        same("31st", x.feed(0, 0, 0, 0, 0), -1);
        same("600 blanks are an act", x.act(0, 0), 0);
        same("empty again", x.feed(0x70726963, 0x65203720, 0x3b202020, 0x20202020, 0x20200a3b), 20);
        says(23, "by hand");
        no("-1", x.end(-1));
        no("21", x.end(21));
        yes("20", x.end(20));
        yes("19", x.end(19));
        GasTown y = new GasTown();
        yes("an empty tape", y.end(0));
        same("feed", y.feed(0, 0, 0, 0, 0), 20);
        yes("nothing left", y.end(0));
        same("feed", y.feed(0, 0, 0, 0, 0), 20);
        no("20", x.end(20));
        says(24, "by hand");
        same("a line", x.act(0, 0), 1);
        same("due", x.due(2, 0, 0, 0), 7);
        tape(x, "price 8;");
        same("no act 4", x.act(4, 0), -1);
        no("the tape is empty", x.end(1));
        tape(x, "price 8;");
        same("no act -1", x.act(-1, 0), -1);
        no("the tape is empty", x.end(1));
        same("day 42", tell(x, 0, 42, "price 8;"), -1);
        same("day -1", tell(x, 0, -1, "price 8;"), -1);
        same("as it was", x.due(2, 0, 0, 0), 7);
        same("a fault", tell(x, 0, 0, "price ;"), -1);
        no("the tape is empty", x.end(1));
        same("as it was", x.due(2, 0, 0, 0), 7);
        says(25, "by hand");
        same("fault", x.fault(0), 1);
        same("place", x.fault(1), 6);
        same("no what", x.fault(2), -1);
        same("no what", x.fault(-1), -1);
        same("no act", tell(x, 4, 0, "price ;"), -1);
        same("no fault", x.fault(0), 0);
        same("no place", x.fault(1), -1);
        says(24, "by hand");
        same("day 41", tell(x, 3, 41, "price 9;fine 1;"), 2);
        same("last day", x.due(2, 41 * 96, 0, 0), 9);
        same("the day ahead", x.due(2, 41 * 96 - 1, 0, 0), 7);
        same("told anew", tell(x, 3, 41, ""), 0);
        same("an empty act", x.due(2, 41 * 96, 0, 0), 7);
    }

    private static void grammar() {
        says(24, "by hand");
        stands("", 0);
        stands(" \n ", 0);
        stands("pressure 1;candles 2;price 3;fine 4;dividend 5;", 5);
        stands("price3;", 1);
        stands("price hour+day-fog*price/7*short when 1<2;", 1);
        stands("price 1 when not not not not not not not not 1<2;", 1);
        stands("price 1 when((((((((1=2))))))));", 1);
        stands("price 1 when (1<2 or 2<1) and not (1=1 and 2>3) or 4<5;", 1);
        stands("price 1 when (1<2) and ((((((((1=2)))))))) ;", 1);
        stands("price 1 when not 1<2 and not (not (not (not 1 < 2 and not not 3 < 4)));", 1);
        stands("price 99999;", 1);
        stands("price 00000;", 1);
        StringBuilder lines = new StringBuilder();
        for (int i = 0; i < 24; i++) {
            lines.append("fine 1;\n");
        }
        stands(lines.toString(), 24);
    }

    private static void faults() {
        says(25, "by hand");
        fails("price", 1, 5);
        fails("price \n ", 1, 8);
        fails("price 1", 1, 7);
        fails("hour 1;", 1, 0);
        fails("1 price;", 1, 0);
        fails(";", 1, 0);
        fails("price 1;;", 1, 8);
        fails("Price 1;", 1, 0);
        fails("pricex 1;", 1, 0);
        fails("priceX 1;", 1, 0);
        fails("pricez 1;", 1, 0);
        fails("pricea 1;", 1, 0);
        fails("priceZ 1;", 1, 0);
        fails("priceA 1;", 1, 0);
        fails("price{1;", 1, 5);
        fails("price[1;", 1, 5);
        fails("price@1;", 1, 5);
        fails("price`1;", 1, 5);
        fails("price 100000;", 1, 6);
        fails("price 1 2;", 1, 8);
        fails("price 1hour;", 1, 7);
        fails("price -1;", 1, 6);
        fails("price (1);", 1, 6);
        fails("price 1+;", 1, 8);
        fails("price 1*;", 1, 8);
        fails("price 1/hour;", 1, 8);
        fails("price 1/;", 1, 8);
        fails("price 1/0;", 2, 8);
        fails("price 1/ 00000;", 2, 9);
        fails("price 1/000000;", 1, 8);
        fails("price 1<2;", 1, 7);
        fails("price 1 and;", 1, 8);
        fails("price fine;", 1, 6);
        fails("price 1 when;", 1, 12);
        fails("price 1 when 2;", 1, 14);
        fails("price 1 when 1<2<3;", 1, 16);
        fails("price 1 when 1<2);", 1, 16);
        fails("price 1 when (1<2;", 1, 17);
        fails("price 1 when (1);", 1, 15);
        fails("price 1 when (1<2) 3;", 1, 19);
        fails("price 1 when (1<2)+3;", 1, 18);
        fails("price 1 when 1<(2);", 1, 15);
        fails("price 1 when not;", 1, 16);
        fails("price 1 when 1<2 and;", 1, 20);
        fails("price 1 when 1<2 or or 1<2;", 1, 20);
        fails("price 1 when 1<2 when 1<2;", 1, 17);
        fails("price 1 when 1+2 and 1<2;", 1, 17);
        fails("price 1 when 1<2 not 1<2;", 1, 17);
        fails("price 1 when not 1/0<2;", 2, 19);
        fails("price 1 ? 2;", 1, 8);
        fails("price 1\t;", 1, 7);
        fails("price " + (char) 233 + ";", 1, 6);
        fails("price 1 when not not not not not not not not not 1<2;", 3, 45);
        fails("price 1 when (((((((((1=2)))))))));", 3, 21);
        fails("price 1 when not ( not ( not ( not ( not 1 < 2)))); ", 3, 37);
        fails("price 1 when (((((((1<2 and not not 1<2);", 3, 32);
        fails("price 1 when (((((((1<2 and not 1<2 and not 1<2 and (1<2 and (", 3, 61);
        StringBuilder lines = new StringBuilder();
        for (int i = 0; i < 24; i++) {
            lines.append("fine 1;\n");
        }
        fails(lines + "fine", 3, 192);
        fails(lines + " hour", 1, 193);
        fails(lines + ";", 1, 192);
    }

    private static void expressions() {
        says(26, "by hand");
        same("left to right", priceBy("10 - 3 - 2"), 5);
        same("times first", priceBy("1 + 2 * 3 - 4 * 2"), -1);
        same("by and times", priceBy("7 / 2 * 3"), 9);
        same("times and by", priceBy("7 * 3 / 2"), 10);
        same("short", priceBy("short * short"), 25);
        same("wraps", priceBy("99999 * 99999"), 99999 * 99999);
        same("two readings", priceBy("0 - 7 + 0"), -7);
        GasTown x = new GasTown();
        tell(x, 0, 0, "dividend short / 2; fine hour * 100 + day;");
        same("towards 0", x.due(4, 0, -7, 0), -3);
        same("hour and day", x.due(3, 2 * 96 + 5 * 4 + 3, 0, 0), 502);
        x.fog(3, 2);
        tell(x, 0, 0, "fine fog;");
        same("fog", x.due(3, 3 * 96, 0, 0), 2);
        same("no fog", x.due(3, 3 * 96 - 1, 0, 0), 0);
        tell(x, 0, 0, "price 5 + short + price * 1000; fine price * 10 + short;");
        same("price itself", x.due(2, 0, 3, 0), 8);
        same("price without short", x.due(3, 0, 3, 0), 53);
        tell(x, 0, 0, "fine price + 1;");
        same("no price", x.due(3, 0, 0, 0), 1);
        String[] when = {"1<2", "2<1", "2=2", "2>1", "1>2", "not 1<2", "1<2 and 2<1", "1<2 or 2<1", "2<1 or 2<1",
            "2<1 and 2<1 or 1<2", "1<2 or 2<1 and 2<1", "not 2<1 and 1<2", "not (2<1 and 1<2)", "not not 1<2",
            "(1<2 or 1<2) and 2<1", "not 1<2 or 1<2", "1+2*3=7", "1<2 and not 1<2 or not 2<1"};
        boolean[] so = {true, false, true, true, false, false, false, true, false,
            true, true, true, true, true, false, true, true, true};
        for (int i = 0; i < when.length; i++) {
            tell(x, 0, 0, "fine 4 when " + when[i] + ";");
            same(when[i], x.due(3, 0, 0, 0), so[i] ? 4 : 0);
            same(when[i], x.due(3, 0, 0, 1), so[i] ? 0 : -1);
        }
    }

    private static void dues() {
        says(26, "by hand");
        GasTown x = new GasTown();
        tell(x, 0, 2, "price 1; price 1; candles 1; candles 1; candles 2; fine 3;");
        tell(x, 1, 2, "price 2; dividend 7 when 1 < 0; pressure 1 when 0<1;");
        tell(x, 2, 1, "price 3; dividend 8; dividend 9 when 1 > 2; candles 1 when 1<0; candles 5;");
        tell(x, 3, 3, "dividend 2 when hour = 5;");
        same("ahead", x.due(2, 95, 0, 0), 0);
        same("ahead", x.due(2, 95, 0, 1), -1);
        same("ahead", x.due(2, 95, 0, 2), 0);
        same("day 1", x.due(2, 96, 0, 1), 2);
        same("the greater number", x.due(2, 192, 0, 1), 1);
        same("the greater number", x.due(2, 192, 0, 0), 2);
        same("no line that tells", x.due(4, 192, 0, 1), 2);
        same("no quarrel with a line that does not tell", x.due(4, 192, 0, 2), 0);
        same("hour 5", x.due(4, 3 * 96 + 20, 0, 1), 3);
        same("hour 6", x.due(4, 3 * 96 + 24, 0, 1), 2);
        same("first such line", x.due(1, 192, 0, 0), 1);
        same("quarrel", x.due(1, 192, 0, 2), 1);
        same("on day 1", x.due(1, 96, 0, 0), 5);
        same("no quarrel", x.due(1, 96, 0, 2), 0);
        same("equal numbers", x.due(3, 192, 0, 2), 0);
        same("pressure", x.due(0, 3999, 0, 0), 1);
        same("subject 5", x.due(5, 0, 0, 0), -1);
        same("subject -1", x.due(-1, 0, 0, 0), -1);
        same("step 4000", x.due(0, 4000, 0, 0), -1);
        same("step -1", x.due(0, -1, 0, 0), -1);
        same("what 3", x.due(0, 3999, 0, 3), -1);
        same("what -1", x.due(0, 3999, 0, -1), -1);
    }

    private static void tries() {
        says(27, "by hand");
        GasTown x = new GasTown();
        same("-1", x.tries(-1), -1);
        same("100", x.tries(100), -1);
        same("no due", x.tries(0), 0);
        tell(x, 0, 0, "candles 14;");
        same("no fine", x.tries(0), 0);
        tell(x, 0, 0, "candles 14 + short * 50; fine short * short * 1000 - 1000;");
        same("enough", x.tries(14), 0);
        same("lacks one", x.tries(13), 0);
        same("lacks two", x.tries(12), 3000);
        same("lacks fourteen", x.tries(0), 99999);
        same("fines", x.look(12), 102999);
        tell(x, 0, 0, "candles 14 + short; fine 8;");
        same("at the due nothing lacks", x.tries(14), 0);
        same("below it", x.tries(13), 8);
        same("fines", x.look(12), 103007);
        tell(x, 0, 0, "candles 14; fine 0 - 9;");
        same("below 0", x.tries(3), 0);
        same("nothing is added", x.tries(100), -1);
        same("fines", x.look(12), 103007);
    }

    private static void shares() {
        says(28, "by hand");
        GasTown x = rich();
        x.thing(0, 0, 10, 0);
        x.read(0);
        x.steps(4);
        x.read(0);
        tell(x, 0, 0, "price 100; dividend 12 + short; candles 5; fine 7;");
        same("gain", x.share(0), 4000);
        same("may", x.share(1), 12);
        same("can", x.share(2), 40);
        same("paid", x.share(3), 12);
        x.tries(0);
        same("less fines", x.share(0), 3993);
        same("can", x.share(2), 39);
        x.buy(1, 10, 300);
        same("less what was spent", x.share(0), 993);
        same("can", x.share(2), 9);
        same("paid", x.share(3), 9);
        x.buy(1, 10, 100);
        same("below 0", x.share(0), -7);
        same("can", x.share(2), 0);
        same("paid", x.share(3), 0);
        x.right(0, 1, 41);
        same("put right", x.share(0), 93);
        x.right(0, 1, 47);
        same("put right", x.share(0), 693);
        same("paid by 100", x.share(3), 6);
        x.right(0, 1, 46);
        same("600 is not there", x.share(3), 5);
        x.right(0, 1, 41);
        same("what 4", x.share(4), -1);
        same("what -1", x.share(-1), -1);
        tell(x, 0, 0, "price 100; dividend 0 - 3;");
        same("may be below 0", x.share(1), 0);
        same("paid", x.share(3), 0);
        GasTown y = new GasTown();
        y.buy(0, 5, 0);
        y.bench();
        y.charge(0, 0, 5);
        y.steps(16);
        y.sell(10, 20);
        same("sold", y.share(0), 200);
        same("without a due", y.share(1), 0);
    }

    private static void why() {
        says(31, "by hand");
        GasTown x = rich();
        same("a rich town", x.why(0, 0), 0);
        GasTown y = new GasTown();
        same("ahead of the first step", y.why(0, 0), -1);
        x.node(0, 9, 0);
        x.node(1, 9, 0);
        x.node(2, 9, 0);
        x.node(0, 2, -9);
        x.thing(1, 0, 10, 0);
        x.thing(2, 0, 40, 0);
        x.thing(3, 0, 50, 0);
        x.thing(4, 0, 50, 0);
        x.gate(19);
        x.water(3, true);
        x.steps(1);
        same("gate", x.why(0, 0), 3);
        same("gate, where", x.why(0, 1), -1);
        same("node 1", x.why(1, 0), 3);
        same("node 1, where", x.why(1, 1), 1);
        same("node 2, where", x.why(2, 1), 1);
        same("node 3", x.why(3, 0), 2);
        same("node 3, where", x.why(3, 1), 3);
        same("what 2", x.why(1, 2), -1);
        same("what -1", x.why(1, -1), -1);
        same("node 5", x.why(5, 0), -1);
        x.water(3, false);
        same("as it was", x.why(3, 0), 2);
        same("a node that came since", x.node(3, 9, 0), 5);
        same("its reason", x.why(5, 0), 2);
        same("its place", x.why(5, 1), 3);
        same("another", x.node(4, 1, 0), 6);
        same("its reason", x.why(6, 0), 3);
        same("its place", x.why(6, 1), 4);
        same("a third", x.node(0, 1, 0), 7);
        same("its reason", x.why(7, 0), 3);
        same("its place", x.why(7, 1), 7);
        same("no pressure", x.at(7, 0), 0);
        x.water(1, true);
        x.water(2, true);
        x.steps(1);
        same("nearest to the gate", x.why(3, 1), 1);
        x.water(1, false);
        x.water(2, false);
        x.cut(0, true);
        x.cut(2, true);
        x.steps(1);
        same("settled at 15", x.at(2, 0), 15);
        same("reason", x.why(2, 0), 3);
        same("of several the nearest to the gate", x.why(2, 1), 1);
        x.gate(20);
        x.steps(1);
        same("20 is enough", x.why(0, 0), 0);
        same("0 has no place", x.why(0, 1), -1);
        GasTown z = rich();
        z.node(0, 1, 0);
        z.node(1, 9, 0);
        z.thing(2, 0, 90, 0);
        z.gate(19);
        z.steps(1);
        same("loses most", z.why(2, 1), 2);
    }

    private static void best() {
        says(32, "by hand");
        GasTown x = new GasTown();
        same("coal 3", x.best(3, 1, 0), -1);
        same("coal -1", x.best(-1, 1, 0), -1);
        same("tons 0", x.best(0, 0, 0), -1);
        same("tons 10", x.best(0, 10, 0), -1);
        same("what 9", x.best(0, 1, 9), -1);
        same("what -1", x.best(0, 1, -1), -1);
        same("nothing is wanted", x.best(0, 1, 0), 0);
        same("nothing is wanted", x.best(0, 1, 8), 0);
        x.thing(0, 3, 10, 0);
        same("no bench", x.best(0, 9, 0), -1);
        x.bench();
        same("no stock", x.best(0, 9, 0), -1);
        x.buy(0, 8, 0);
        same("no stock", x.best(0, 9, 0), -1);
        same("no holder", x.best(0, 8, 0), -1);
        x.holder(9999);
        same("one of eight", x.best(0, 8, 0), 1);
        same("at once", x.best(0, 8, 1), 1);
        x.hands(2);
        same("no hands", x.best(0, 8, 0), -1);
        x.hands(3);
        same("hands for one", x.best(0, 8, 0), 1);
        x.hands(6);
        x.cut(0, true);
        same("cut", x.best(0, 8, 0), 0);
        x.cut(0, false);
        x.coal(0, 10, 0, 0);
        same("too little gas", x.best(0, 8, 0), -1);
        x.hands(30);
        GasTown y = new GasTown();
        y.holder(9999);
        y.buy(0, 9, 0);
        y.bench();
        y.bench();
        y.charge(0, 0, 9);
        y.hands(3);
        y.steps(14);
        y.thing(0, 3, 40, 0);
        // 862 and 38 that come still: enough for 22 steps
        same("none can be", y.best(0, 1, 0), -1);
        y.buy(0, 99, 0);
        same("one of nine", y.best(0, 9, 0), 1);
        for (int i = 1; i < 9; i++) {
            same("as late as can be " + i, y.best(0, 9, i), i == 6 ? 1 : 0);
        }
        GasTown z = new GasTown();
        z.holder(9999);
        z.coal(1, 10, 0, 0);
        z.buy(0, 99, 0);
        z.buy(1, 1, 0);
        z.bench();
        z.bench();
        z.thing(0, 3, 10, 0);
        z.hands(3);
        same("at once", z.best(0, 9, 1), 1);
        z.charge(1, 1, 1);
        same("the hands of now are done with", z.best(0, 9, 0), -1);
        z.hands(6);
        same("hands for two", z.best(0, 9, 1), 1);
        y.charge(1, 0, 1);
        y.hands(0);
        same("none can always come", y.best(0, 9, 0), -1);
        y.cut(0, true);
        same("none can always come", y.best(0, 9, 0), 0);
    }

    private static void last() {
        says(33, "by hand");
        GasTown x = new GasTown();
        same("none", x.last(), -1);
        x.thing(0, 0, 3, 0);
        same("at 6 o'clock", x.last(), 24);
        x.steps(30);
        same("now", x.last(), 30);
        x.cut(0, true);
        same("none", x.last(), -1);
        x.thing(0, 1, 1, 0);
        same("at dusk", x.last(), 64);
        x.round(80, 10);
        same("later dusk", x.last(), 80);
        x.fog(0, 2);
        same("fog", x.last(), 30);
        x.cut(1, true);
        x.thing(0, 2, 50, 0);
        same("no coin", x.last(), -1);
        x.coin(2, 1);
        same("a coin", x.last(), 30);
        GasTown y = rich();
        y.thing(0, 3, 99, 0);
        same("21600 by 99 are 218", y.last(), -1);
        y.thing(0, 3, 14, 0);
        same("21600 by 113 are 191", y.last(), 32 + 191);
        GasTown z = new GasTown();
        for (int i = 0; i < 41; i++) {
            z.steps(96);
        }
        z.steps(63);
        z.thing(0, 1, 1, 0);
        z.round(80, 10);
        same("behind the last step", z.last(), 41 * 96 + 80);
        z.cut(0, true);
        z.fog(41, 3);
        z.thing(0, 0, 1, 0);
        same("from 16 o'clock on", z.last(), 4000);
        z.thing(0, 0, 2, 0);
        same("in the last step", z.last(), 3999);
        same("the night goes on behind the last step", z.best(0, 1, 0), -1);
    }

    private static void find() {
        says(34, "by hand");
        GasTown x = new GasTown();
        no("no node", x.sees(1, 0));
        no("gate", x.sees(0, 1));
        x.node(0, 1, 0);
        x.node(1, 1, 0);
        x.node(1, 1, 0);
        no("2", x.sees(1, 2));
        no("-2", x.sees(1, -2));
        no("-1", x.sees(-1, 0));
        says(35, "by hand");
        same("nothing told", x.find(0), 0);
        same("the empty set", x.find(1), 1);
        same("in no set", x.find(11), 0);
        same("what 2", x.find(2), -1);
        same("what 9", x.find(9), -1);
        same("what 10", x.find(10), -1);
        same("what 14", x.find(14), -1);
        same("what -1", x.find(-1), -1);
        same("far", x.find(Integer.MIN_VALUE), -1);
        says(34, "by hand");
        yes("no gas", x.sees(2, 0));
        says(35, "by hand");
        same("one", x.find(0), 1);
        same("two sets", x.find(1), 2);
        same("in some", x.find(11), 1);
        same("in some", x.find(12), 1);
        same("in none", x.find(13), 0);
        yes("no gas", x.sees(3, 0));
        same("one", x.find(0), 1);
        same("one set", x.find(1), 1);
        same("in all", x.find(11), 2);
        same("in none", x.find(12), 0);
        yes("gas", x.sees(1, 1));
        same("two", x.find(0), 2);
        same("in all", x.find(13), 2);
        yes("no gas ahead, gas behind", x.sees(1, 0));
        yes("gas", x.sees(3, 1));
        same("none explains", x.find(0), -1);
        same("none explains", x.find(1), -1);
        same("none explains", x.find(11), -1);
        yes("nothing told", x.sees(1, -1));
        same("one", x.find(0), 1);
        same("in all", x.find(12), 2);
    }

    private static void choice() {
        says(36, "by hand");
        GasTown x = new GasTown();
        same("gate", x.work(0, 1, 1), -1);
        same("no node", x.work(1, 1, 1), -1);
        x.gate(21);
        x.node(0, 9, 0);
        x.node(0, 9, 0);
        same("resistance 0", x.work(1, 0, 1), -1);
        same("resistance 10", x.work(1, 10, 1), -1);
        same("coin 0", x.work(1, 1, 0), -1);
        same("coin 1000", x.work(1, 1, 1000), -1);
        for (int i = 0; i < 2; i++) {
            for (int j = 0; j < 2; j++) {
                x.thing(i + 1, 0, 24, 0);
            }
        }
        same("work 0", x.work(1, 1, 10), 0);
        same("work 1", x.work(1, 8, 5), 1);
        same("work 2", x.work(2, 1, 10), 2);
        same("work 3", x.work(1, 2, 10), 3);
        says(37, "by hand");
        same("coin -1", x.choice(-1, 0, 0), -1);
        same("coin 10000", x.choice(10000, 0, 0), -1);
        same("step -1", x.choice(0, -1, 0), -1);
        same("step 4000", x.choice(0, 4000, 0), -1);
        same("what 3", x.choice(0, 0, 3), -1);
        same("what -1", x.choice(0, 0, -1), -1);
        same("at night all burn", x.choice(99, 0, 1), 4);
        same("for nothing", x.choice(99, 0, 0), 0);
        same("for nothing", x.choice(99, 0, 2), 0);
        same("by day none", x.choice(9, 24, 1), 0);
        same("the least number", x.choice(10, 24, 0), 1);
        same("two burn", x.choice(10, 24, 1), 2);
        same("for ten", x.choice(10, 24, 2), 10);
        same("two works", x.choice(9999, 24, 0), 5);
        same("all burn", x.choice(9999, 24, 1), 4);
        same("for twenty", x.choice(9999, 24, 2), 20);
        x.water(1, true);
        same("no work helps against water", x.choice(9999, 24, 0), 4);
        says(36, "by hand");
        for (int i = 4; i < 8; i++) {
            same("work", x.work(1, 1, 999), i);
        }
        same("ninth", x.work(1, 1, 1), -1);
        // of several of one pipe the greatest number counts
        GasTown y = new GasTown();
        y.gate(21);
        y.node(0, 9, 0);
        y.thing(1, 0, 50, 0);
        y.work(1, 1, 1);
        y.work(1, 8, 1);
        says(37, "by hand");
        same("not both", y.choice(99, 24, 0), 1);
        y.thing(1, 3, 99, 0);
        y.thing(0, 1, 9, 0);
        same("a leak never burns", y.choice(99, 0, 1), 1 + 1);
        y.thing(0, 0, 4, 0);
        same("a thing that wants 1 burns", y.choice(99, 0, 1), 3);
        y.thing(0, 0, 3, 0);
        same("a thing that wants nothing does not", y.choice(99, 0, 1), 3);
        y.gate(20);
        same("20 is enough at the gate", y.choice(0, 0, 1), 2);
        y.gate(19);
        same("19 is too little", y.choice(0, 0, 1), 0);
    }

    private static void look() {
        says(38, "by hand");
        GasTown x = rich();
        same("now", x.look(0), 32);
        same("level", x.look(1), 21600);
        same("made", x.look(2), 21600);
        same("burning", x.look(15), 0);
        x.charge(0, 0, 1);
        same("burning", x.look(15), 1);
        same("what 16", x.look(16), -1);
        same("what -1", x.look(-1), -1);
    }
}
