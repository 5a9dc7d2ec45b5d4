/** The edges of the works, of steps and of the sky, sentence by sentence: promises 1 to 9, 17, 21 and 38. */
public final class WorksEdgesTest extends Check {
    private static final int[] S = {0, 1, 3, 6, 10, 15, 21, 28, 36, 44, 51, 57, 62, 66, 69, 71, 72};

    public static void main(String[] args) {
        newObject();
        firstNumbers();
        coal();
        buy();
        bench();
        charge();
        burning();
        hands();
        holder();
        round();
        fog();
        fogBehindDay41();
        steps();
        sell();
        look();
        end();
    }

    private static void newObject() {
        says(1, "NOW 0, the gate alone");
        GasTown x = new GasTown();
        same("NONE", GasTown.NONE, -1);
        for (int what = 0; what <= 15; what++) {
            same("look " + what, x.look(what), what == 14 ? 1 : 0);
        }
        same("pressure of the gate", x.at(0, 0), 0);
        same("flow of the gate", x.at(0, 1), 0);
        same("water of the gate", x.at(0, 2), 0);
        none("parent of the gate", x.at(0, 3));
        none("node 1", x.at(1, 0));
        none("thing 0", x.of(0, 0));
        none("why", x.why(0, 0));
        none("bill", x.bill(0, 0, 0, 0));
        none("last", x.last());
        same("best", x.best(0, 1, 0), 0);
        same("find", x.find(0), 0);
        same("find", x.find(1), 1);
        same("choice", x.choice(9999, 0, 0), 0);
        same("choice", x.choice(9999, 0, 1), 0);
        for (int what = 0; what <= 3; what++) {
            same("share " + what, x.share(what), 0);
        }
        for (int s = 0; s <= 4; s++) {
            same("due " + s, x.due(s, 0, 0, 0), 0);
            none("due " + s, x.due(s, 0, 0, 1));
            same("due " + s, x.due(s, 0, 0, 2), 0);
        }
        same("fault", x.fault(0), 0);
        none("place", x.fault(1));
        no("a byte on the tape", x.end(1));
        none("a bench", x.charge(0, 0, 1));
        says(1, "a new object has nothing of another one");
        GasTown y = rich();
        y.node(0, 1, 0);
        y.thing(0, 0, 1, 0);
        y.fog(0, 3);
        GasTown z = new GasTown();
        same("now", z.look(0), 0);
        same("nodes", z.look(14), 1);
        same("things", z.look(13), 0);
        same("stock", z.buy(0, 1, 0), 1);
        z.bench();
        same("gas", z.charge(0, 0, 1), 100);
    }

    private static void firstNumbers() {
        for (int k = 0; k <= 2; k++) {
            GasTown x = new GasTown();
            says(0, "a STOCK of tons (0 at first, 9999 at most)");
            x.bench();
            none("charge of coal " + k, x.charge(0, k, 1));
            same("stock of coal " + k, x.buy(k, 1, 0), 1);
            says(0, "of a ton; at first 100, 60, 5");
            same("gas of coal " + k, x.charge(0, k, 1), 100);
            x.steps(16);
            same("coke of coal " + k, x.look(8), 60);
            same("tar of coal " + k, x.look(9), 5);
            says(0, "a CAPACITY 0 .. 99999 (0 at first) and a LEVEL (0 at first");
            same("level", x.look(1), 0);
            same("stood off", x.look(3), 100);
            says(0, "THE GATE's (0 .. 99, 40 at first)");
            same("pressure of the gate", x.at(0, 0), 40);
        }
        says(0, "HANDS (0 .. 30, 6 at first)");
        GasTown y = new GasTown();
        y.buy(0, 9, 0);
        for (int b = 0; b < 3; b++) {
            y.bench();
            same("charge " + b, y.charge(b, 0, 1), b < 2 ? 100 : -1);
        }
        says(0, "at a FOG f of its DAY (0 .. 3; 0 at first");
        GasTown z = new GasTown();
        tell(z, 0, 0, "fine fog;");
        for (int day = 0; day <= 41; day++) {
            same("fog of day " + day, z.due(3, 96 * day, 0, 0), 0);
        }
        says(0, "DUSK 40 .. 80, 64 at first, DAWN 10 .. 40, 28 at first");
        GasTown w = new GasTown();
        w.thing(0, 1, 5, 0);
        w.steps(27);
        same("lamp at 27", w.of(0, 0), 5);
        w.steps(1);
        same("lamp at 28", w.of(0, 0), 0);
        w.steps(35);
        same("lamp at 63", w.of(0, 0), 0);
        w.steps(1);
        same("lamp at 64", w.of(0, 0), 5);
    }

    private static void coal() {
        GasTown x = new GasTown();
        says(2, "A COAL's numbers: true");
        for (int k = 0; k <= 2; k++) {
            yes("least", x.coal(k, 10, 0, 0));
            yes("greatest", x.coal(k, 200, 80, 20));
            yes("the same again", x.coal(k, 200, 80, 20));
        }
        x.coal(0, 110, 10, 1);
        x.coal(1, 120, 20, 2);
        x.coal(2, 130, 30, 3);
        says(2, "false, and nothing is done, if one can't be");
        no("coal -1", x.coal(-1, 50, 5, 5));
        no("coal 3", x.coal(3, 50, 5, 5));
        no("gas 9", x.coal(0, 9, 5, 5));
        no("gas 201", x.coal(1, 201, 5, 5));
        no("gas 0", x.coal(2, 0, 5, 5));
        no("coke -1", x.coal(0, 50, -1, 5));
        no("coke 81", x.coal(1, 50, 81, 5));
        no("tar -1", x.coal(2, 50, 5, -1));
        no("tar 21", x.coal(0, 50, 5, 21));
        x.hands(9);
        int coke = 0;
        int tar = 0;
        for (int k = 0; k <= 2; k++) {
            x.bench();
            x.buy(k, 1, 0);
            same("gas of coal " + k, x.charge(k, k, 1), 110 + 10 * k);
            says(0, "GAS as it is as it is charged");
            yes("numbers that come later", x.coal(k, 10, 0, 0));
        }
        x.steps(15);
        same("no coke yet", x.look(8), 0);
        same("no tar yet", x.look(9), 0);
        x.steps(1);
        same("gas", x.look(2), 110 + 120 + 130);
        says(0, "W times COKE and W times TAR (as they were)");
        same("coke", x.look(8), 10 + 20 + 30);
        same("tar", x.look(9), 1 + 2 + 3);
    }

    private static void buy() {
        GasTown x = new GasTown();
        says(3, "NONE, and nothing is done, if one can't be (tons 1 .. 9999)");
        same("the least", x.buy(0, 1, 7), 1);
        none("coal -1", x.buy(-1, 1, 7));
        none("coal 3", x.buy(3, 1, 7));
        none("tons 0", x.buy(0, 0, 7));
        none("tons -1", x.buy(0, -1, 7));
        none("tons 10000", x.buy(1, 10000, 7));
        says(3, "at a price for a ton (0 .. 999), which is SPENT");
        none("price -1", x.buy(0, 2, -1));
        none("price 1000", x.buy(0, 2, 1000));
        same("spent", x.look(10), 7);
        same("price 0", x.buy(0, 2, 0), 3);
        same("spent", x.look(10), 7);
        same("price 999", x.buy(0, 2, 999), 5);
        same("spent", x.look(10), 7 + 2 * 999);
        says(3, "or it would have more than 9999");
        none("9995 to 5", x.buy(0, 9995, 1));
        none("9999 to 5", x.buy(0, 9999, 1));
        same("spent", x.look(10), 7 + 2 * 999);
        same("9994 to 5", x.buy(0, 9994, 1), 9999);
        none("one more", x.buy(0, 1, 0));
        same("9999 at once", x.buy(1, 9999, 999), 9999);
        none("one more of the other", x.buy(1, 1, 0));
        same("spent", x.look(10), 7 + 2 * 999 + 9994 + 9999 * 999);
        same("the third has its own", x.buy(2, 3, 0), 3);
        x.bench();
        x.charge(0, 0, 9);
        none("ten for nine", x.buy(0, 10, 0));
        same("nine for nine", x.buy(0, 9, 0), 9999);
    }

    private static void bench() {
        GasTown x = new GasTown();
        x.buy(0, 99, 0);
        x.hands(30);
        for (int b = 0; b < 6; b++) {
            says(5, "NONE, and nothing is done, if there is no such BENCH");
            none("bench " + b + " that is not there", x.charge(b, 0, 1));
            says(4, "A BENCH: its number");
            same("bench", x.bench(), b);
            same("a charge of it", x.charge(b, 0, 1), 100);
        }
        says(4, "NONE if there are six");
        none("the seventh", x.bench());
        none("the eighth", x.bench());
        none("a charge of the seventh", x.charge(6, 0, 1));
        same("six charges burn", x.look(15), 6);
    }

    private static void charge() {
        GasTown x = new GasTown();
        x.holder(99999);
        x.buy(0, 9, 0);
        x.buy(1, 99, 0);
        x.bench();
        x.bench();
        x.bench();
        says(5, "NONE, and nothing is done, if there is no such BENCH or COAL");
        none("bench -1", x.charge(-1, 1, 1));
        none("bench 3", x.charge(3, 1, 1));
        none("coal -1", x.charge(0, -1, 1));
        none("coal 3", x.charge(0, 3, 1));
        says(5, "tons can't be");
        none("tons 0", x.charge(0, 1, 0));
        none("tons -1", x.charge(0, 1, -1));
        none("tons 10", x.charge(0, 1, 10));
        says(5, "STOCK or HANDS are wanting");
        none("no coal 2", x.charge(0, 2, 1));
        same("stock of nine for nine", x.charge(0, 0, 9), 900);
        none("stock of none", x.charge(1, 0, 1));
        x.buy(0, 4, 0);
        none("stock of four for five", x.charge(1, 0, 5));
        same("four are left", x.buy(0, 1, 0), 5);
        same("stock of five for five", x.charge(1, 0, 5), 500);
        none("six hands for three charges", x.charge(2, 1, 1));
        same("two charges burn", x.look(15), 2);
        same("stock as it was", x.buy(1, 1, 0), 100);
        x.hands(9);
        same("nine hands for three: what was refused took no hands", x.charge(2, 1, 1), 100);
        same("stock less one", x.buy(1, 1, 0), 100);
        says(5, "it is not COLD");
        for (int i = 0; i < 16; i++) {
            none("in step " + i, x.charge(0, 1, 1));
            x.steps(1);
        }
        same("behind the 16th", x.charge(0, 1, 1), 100);
        same("stock less one", x.buy(1, 1, 0), 100);
        same("one burns", x.look(15), 1);
        says(0, "THE YARD");
        same("coke of 9, 5 and 1", x.look(8), 15 * 60);
        same("tar of 9, 5 and 1", x.look(9), 15 * 5);
    }

    private static void burning() {
        says(0, "up to the end of the i-th of them W times GAS times S(i) by 72 in all");
        GasTown x = new GasTown();
        x.holder(99999);
        x.coal(0, 13, 80, 20);
        x.coal(1, 72, 0, 0);
        x.buy(0, 99, 0);
        x.buy(1, 99, 0);
        x.bench();
        x.bench();
        same("7 tons of 13", x.charge(0, 0, 7), 91);
        for (int i = 1; i <= 16; i++) {
            if (i == 6) {
                same("1 ton of 72, later", x.charge(1, 1, 1), 72);
            }
            x.steps(1);
            same("made up to the end of step " + i, x.look(2), 91 * S[i] / 72 + (i < 6 ? 0 : S[i - 5]));
            same("level", x.look(1), x.look(2));
            says(0, "As the 16th ends, the BENCH is COLD");
            same("burning at the end of step " + i, x.look(15), (i < 16 ? 1 : 0) + (i < 6 ? 0 : 1));
            same("coke", x.look(8), i < 16 ? 0 : 560);
            same("tar", x.look(9), i < 16 ? 0 : 140);
        }
        x.steps(5);
        same("all is made", x.look(2), 91 + 72);
        same("none burns", x.look(15), 0);
        x.steps(9);
        same("no more is made", x.look(2), 91 + 72);
        same("no more coke", x.look(8), 560);
        says(0, "quotients go downwards, each charge by itself");
        GasTown y = new GasTown();
        y.coal(0, 71, 0, 0);
        y.buy(0, 9, 0);
        y.bench();
        y.bench();
        y.charge(0, 0, 1);
        y.charge(1, 0, 1);
        y.steps(1);
        same("71 by 72 twice", y.look(2), 0);
        y.steps(1);
        same("213 by 72 twice", y.look(2), 4);
        same("nothing is kept without a holder", y.look(1), 0);
        same("all stands off", y.look(3), 4);
        GasTown z = new GasTown();
        z.coal(2, 200, 80, 20);
        z.buy(2, 9, 0);
        z.bench();
        same("the most", z.charge(0, 2, 9), 1800);
        z.steps(16);
        same("coke of the most", z.look(8), 720);
        same("tar of the most", z.look(9), 180);
    }

    private static void hands() {
        GasTown x = new GasTown();
        x.buy(0, 99, 0);
        for (int b = 0; b < 6; b++) {
            x.bench();
        }
        says(6, "HANDS: true; false if it can't be");
        no("-1", x.hands(-1));
        no("31", x.hands(31));
        yes("0", x.hands(0));
        none("no hands", x.charge(0, 0, 1));
        no("31", x.hands(31));
        no("-1", x.hands(-1));
        none("no hands still", x.charge(0, 0, 1));
        says(0, "3 for each CHARGE of a STEP");
        yes("2", x.hands(2));
        none("2 are too few", x.charge(0, 0, 1));
        yes("3", x.hands(3));
        same("3 do for one", x.charge(0, 0, 1), 100);
        none("not for two", x.charge(1, 0, 1));
        yes("5", x.hands(5));
        none("5 are too few for two", x.charge(1, 0, 1));
        yes("6", x.hands(6));
        same("6 do for two", x.charge(1, 0, 1), 100);
        yes("fewer than are at work", x.hands(3));
        none("no third", x.charge(2, 0, 1));
        same("two burn on", x.look(15), 2);
        x.steps(1);
        same("3 do again in the next step", x.charge(2, 0, 1), 100);
        none("but not for two", x.charge(3, 0, 1));
        x.steps(15);
        yes("17", x.hands(17));
        int[] cold = {0, 1, 3, 4, 5};
        for (int b : cold) {
            same("17 do for five", x.charge(b, 0, 1), 100);
        }
        x.steps(1);
        none("bench 0 burns", x.charge(0, 0, 1));
        GasTown y = new GasTown();
        y.buy(0, 99, 0);
        yes("17", y.hands(17));
        for (int b = 0; b < 6; b++) {
            y.bench();
            same("17 do for five", y.charge(b, 0, 1), b < 5 ? 100 : -1);
        }
        yes("30", y.hands(30));
        same("30 do for six", y.charge(5, 0, 1), 100);
    }

    private static void holder() {
        GasTown x = filled(1000);
        says(7, "CAPACITY: true; false if it can't be");
        no("-1", x.holder(-1));
        no("100000", x.holder(100000));
        yes("99999", x.holder(99999));
        same("level", x.look(1), 1000);
        long off = x.look(3);
        says(0, "more than a new CAPACITY STANDS OFF");
        yes("just the level", x.holder(1000));
        same("level", x.look(1), 1000);
        same("stood off", x.look(3), off);
        no("not below 0", x.holder(-5));
        same("level", x.look(1), 1000);
        yes("one less", x.holder(999));
        same("level", x.look(1), 999);
        same("stood off", x.look(3), off + 1);
        yes("more", x.holder(5000));
        same("what stood off is gone", x.look(1), 999);
        same("stood off", x.look(3), off + 1);
        yes("0", x.holder(0));
        same("level", x.look(1), 0);
        same("stood off", x.look(3), off + 1000);
        same("all gas that was made", x.look(2), 1800);
        says(0, "what is above CAPACITY STANDS OFF");
        GasTown y = new GasTown();
        y.holder(24);
        y.coal(0, 72, 0, 0);
        y.buy(0, 9, 0);
        y.bench();
        y.charge(0, 0, 4);
        y.steps(3);
        same("24 in 24", y.look(1), 24);
        same("none stood off", y.look(3), 0);
        y.steps(1);
        same("40 in 24", y.look(1), 24);
        same("16 stood off", y.look(3), 16);
        y.steps(12);
        same("all but 24", y.look(3), 288 - 24);
    }

    private static void round() {
        GasTown x = new GasTown();
        x.thing(0, 1, 5, 0);
        x.thing(0, 1, 6, 15);
        says(8, "DUSK and DAWN: true; false, and nothing is done, if one can't be");
        yes("the least", x.round(40, 10));
        same("dawn 10", x.of(0, 0), 5);
        no("dusk 39", x.round(39, 28));
        no("dusk 81", x.round(81, 28));
        no("dawn 9", x.round(64, 9));
        no("dawn 41", x.round(64, 41));
        no("both", x.round(0, 0));
        x.steps(9);
        same("9", x.of(0, 0), 5);
        x.steps(1);
        same("10 of dawn 10", x.of(0, 0), 0);
        says(0, "or below DAWN + k, in its DAY");
        same("10 of dawn 25", x.of(1, 0), 6);
        x.steps(14);
        same("24 of dawn 25", x.of(1, 0), 6);
        x.steps(1);
        same("25 of dawn 25", x.of(1, 0), 0);
        says(0, "W in a STEP that is from DUSK + k on");
        x.steps(14);
        same("39 of dusk 40", x.of(0, 0), 0);
        x.steps(1);
        same("40 of dusk 40", x.of(0, 0), 5);
        x.steps(14);
        same("54 of dusk 55", x.of(1, 0), 0);
        x.steps(1);
        same("55 of dusk 55", x.of(1, 0), 6);
        says(8, "DUSK and DAWN: true");
        yes("the greatest", x.round(80, 40));
        same("55 of dusk 80 and dawn 40", x.of(0, 0), 0);
        x.steps(24);
        same("79 of dusk 80", x.of(0, 0), 0);
        x.steps(1);
        same("80 of dusk 80", x.of(0, 0), 5);
        x.steps(14);
        same("94 of dusk 95", x.of(1, 0), 0);
        x.steps(1);
        same("95 of dusk 95", x.of(1, 0), 6);
        x.steps(1);
        same("0 of the next day", x.of(0, 0), 5);
        same("0 of the next day", x.of(1, 0), 6);
        x.steps(39);
        same("39 of dawn 40", x.of(0, 0), 5);
        x.steps(1);
        same("40 of dawn 40", x.of(0, 0), 0);
        x.steps(14);
        same("54 of dawn 55", x.of(1, 0), 6);
        x.steps(1);
        same("55 of dawn 55", x.of(1, 0), 0);
    }

    private static void fog() {
        GasTown x = new GasTown();
        tell(x, 0, 0, "fine fog;");
        says(9, "The FOG of a DAY 0 .. 41: true; false if one can't be");
        yes("day 0", x.fog(0, 3));
        yes("day 41", x.fog(41, 1));
        yes("day 20", x.fog(20, 2));
        no("day -1", x.fog(-1, 2));
        no("day 42", x.fog(42, 2));
        no("fog -1", x.fog(0, -1));
        no("fog 4", x.fog(0, 4));
        same("day 0", x.due(3, 0, 0, 0), 3);
        same("day 0", x.due(3, 95, 0, 0), 3);
        same("day 1", x.due(3, 96, 0, 0), 0);
        same("day 19", x.due(3, 20 * 96 - 1, 0, 0), 0);
        same("day 20", x.due(3, 20 * 96, 0, 0), 2);
        same("day 40", x.due(3, 41 * 96 - 1, 0, 0), 0);
        same("day 41", x.due(3, 41 * 96, 0, 0), 1);
        same("day 41", x.due(3, 3999, 0, 0), 1);
        yes("0 again", x.fog(0, 0));
        yes("the same again", x.fog(0, 0));
        same("day 0", x.due(3, 0, 0, 0), 0);
        says(0, "or with f 2 and more; else 0");
        x.thing(0, 1, 9, 0);
        x.steps(40);
        for (int f = 0; f <= 3; f++) {
            x.fog(0, f);
            same("a lamp by day in fog " + f, x.of(0, 0), f < 2 ? 0 : 9);
        }
    }

    private static void fogBehindDay41() {
        says(0, "0 at first, and behind DAY 41");
        GasTown x = filled(43);
        for (int i = 0; i < 41; i++) {
            x.steps(96);
        }
        x.steps(3999 - 16 - 41 * 96);
        x.fog(41, 2);
        x.thing(0, 1, 1, 0);
        x.round(80, 10);
        // 33 steps of day 41 in fog, ten up to the dawn of day 42, then its dusk
        same("the lamp goes out on day 42", x.last(), 42 * 96 + 80);
        x.fog(41, 0);
        x.holder(26);
        same("16 steps from dusk on, ten up to dawn", x.last(), 42 * 96 + 80);
        x.holder(25);
        same("the last step ahead of dawn", x.last(), 42 * 96 + 9);
    }

    private static void steps() {
        GasTown x = new GasTown();
        says(17, "So many STEPS (1 .. 96) go: NOW");
        none("0", x.steps(0));
        none("-1", x.steps(-1));
        none("97", x.steps(97));
        none("the least int", x.steps(Integer.MIN_VALUE));
        none("the greatest int", x.steps(Integer.MAX_VALUE));
        same("nothing is done", x.look(0), 0);
        same("one", x.steps(1), 1);
        same("96", x.steps(96), 97);
        for (int i = 0; i < 40; i++) {
            x.steps(96);
        }
        same("now", x.look(0), 3937);
        says(17, "NONE, and nothing is done, if one can't be, or NOW would be above 3999");
        none("to 4000", x.steps(63));
        none("to 4033", x.steps(96));
        none("the greatest int", x.steps(Integer.MAX_VALUE));
        same("nothing is done", x.look(0), 3937);
        same("to 3998", x.steps(61), 3998);
        none("to 4000", x.steps(2));
        same("to 3999", x.steps(1), 3999);
        none("to 4000", x.steps(1));
        same("now", x.look(0), 3999);
        says(17, "nothing is done: no gas is made in a refused step");
        GasTown y = new GasTown();
        y.buy(0, 9, 0);
        y.bench();
        y.charge(0, 0, 9);
        y.steps(97);
        y.steps(0);
        same("made", y.look(2), 0);
        same("burning", y.look(15), 1);
        none("the hands of now are still at work", y.hands(3) ? y.charge(0, 0, 1) : 0);
        y.steps(2);
        same("two steps", y.look(2), 900 * 3 / 72);
    }

    private static void sell() {
        GasTown x = new GasTown();
        says(21, "or there is less");
        none("an empty yard", x.sell(1, 1));
        x.coal(0, 100, 50, 20);
        x.buy(0, 9, 0);
        x.bench();
        x.charge(0, 0, 9);
        x.steps(15);
        none("ahead of the 16th step's end", x.sell(1, 1));
        x.steps(1);
        same("coke", x.look(8), 450);
        none("one too many", x.sell(451, 1));
        says(21, "NONE, and nothing is done, if one can't be (hundredths 1 and more)");
        none("0", x.sell(0, 1));
        none("-1", x.sell(-1, 1));
        none("the least int", x.sell(Integer.MIN_VALUE, 1));
        none("the greatest int", x.sell(Integer.MAX_VALUE, 1));
        says(21, "at a price for a hundredth (0 .. 99)");
        none("price -1", x.sell(1, -1));
        none("price 100", x.sell(1, 100));
        same("coke", x.look(8), 450);
        same("sold", x.look(11), 0);
        same("the least", x.sell(1, 0), 449);
        same("sold", x.look(11), 0);
        same("the dearest", x.sell(2, 99), 447);
        same("sold", x.look(11), 198);
        none("one too many", x.sell(448, 1));
        same("all", x.sell(447, 3), 0);
        same("coke", x.look(8), 0);
        same("sold", x.look(11), 198 + 1341);
        same("tar stays", x.look(9), 180);
        none("nothing is left", x.sell(1, 0));
    }

    private static void look() {
        says(38, "NONE for another what");
        GasTown x = rich();
        none("16", x.look(16));
        none("-1", x.look(-1));
        none("the least int", x.look(Integer.MIN_VALUE));
        none("the greatest int", x.look(Integer.MAX_VALUE));
        says(38, "What 0 NOW, 1 LEVEL, .. 15 CHARGES that burn");
        x.node(0, 1, 0);
        x.thing(1, 0, 10, 0);
        x.thing(0, 0, 20, 0);
        x.thing(0, 3, 6, 0);
        tell(x, 0, 0, "pressure 99; candles 5; fine 7;");
        x.coal(1, 100, 30, 4);
        x.buy(1, 9, 11);
        x.charge(0, 1, 2);
        x.charge(1, 1, 3);
        x.steps(1);
        x.tries(4);
        long[] due = {33, 21600 + 2 + 4 - 42, 21606, 0, 42, 0, 0, 1, 0, 0, 99, 0, 7, 3, 2, 2};
        for (int what = 0; what < due.length; what++) {
            same("look " + what, x.look(what), due[what]);
        }
        x.steps(15);
        x.sell(50, 2);
        x.holder(5);
        x.steps(1);
        // up to 10 o'clock eight steps at 42, then eight at 27; at noon 27 of 5: dark
        same("now", x.look(0), 49);
        same("level", x.look(1), 5);
        same("made", x.look(2), 21600 + 500);
        same("taken", x.look(4), 8 * 42 + 8 * 27);
        same("stood off", x.look(3), 21600 + 500 - (8 * 42 + 8 * 27) - 5);
        same("dark", x.look(5), 1);
        same("fails", x.look(7), 17);
        same("coke", x.look(8), 100);
        same("tar", x.look(9), 20);
        same("sold", x.look(11), 100);
        same("burning", x.look(15), 0);
    }
}
