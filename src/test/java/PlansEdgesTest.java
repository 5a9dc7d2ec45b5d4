/** The edges of nights, eyes and works on pipes, sentence by sentence: promises 32 to 37. */
public final class PlansEdgesTest extends Check {
    public static void main(String[] args) {
        bestArguments();
        nightOf32Steps();
        places();
        handsOfNow();
        handsOfLaterSteps();
        coldBenches();
        ownCharges();
        stockForAll();
        capacityAtMost();
        gasOfNow();
        wantsOfNow();
        fewestAndFirst();
        bestBehindTheLastStep();
        lastOf192();
        lastOfCharges();
        lastWants();
        sees();
        findArguments();
        explains();
        fewestPipes();
        work();
        choiceArguments();
        purse();
        mostCheapestLeast();
        whatBurns();
        oneOfSeveral();
        toldStep();
        questionsOnly();
        end();
    }

    private static void plan(String what, GasTown x, int k, int tons, int... due) {
        int sum = 0;
        for (int p = 0; p < 8; p++) {
            same(what + ", place " + (p + 1), x.best(k, tons, p + 1), due[p]);
            sum += due[p];
        }
        same(what + ", in all", x.best(k, tons, 0), sum);
    }

    private static void noPlan(String what, GasTown x, int k, int tons) {
        for (int p = 0; p <= 8; p++) {
            none(what + ", " + p, x.best(k, tons, p));
        }
    }

    /** A town at STEP 16 with this LEVEL, one bench, a leak; 8 tons of coal 1 make 720. */
    private static GasTown leaky(int level, int leak) {
        GasTown x = filled(level);
        x.coal(1, 90, 0, 0);
        x.buy(1, 99, 0);
        x.thing(0, 3, leak, 0);
        return x;
    }

    private static void bestArguments() {
        says(32, "NONE if there is none, one can't be, or another what");
        GasTown x = new GasTown();
        none("coal -1", x.best(-1, 1, 0));
        none("coal 3", x.best(3, 1, 0));
        none("tons 0", x.best(0, 0, 0));
        none("tons 10", x.best(0, 10, 0));
        none("tons -1", x.best(0, -1, 0));
        none("what -1", x.best(0, 1, -1));
        none("what 9", x.best(0, 1, 9));
        none("the least int", x.best(Integer.MIN_VALUE, 1, 0));
        none("the greatest int", x.best(0, Integer.MAX_VALUE, 0));
        none("the greatest int", x.best(0, 1, Integer.MAX_VALUE));
        for (int k = 0; k <= 2; k++) {
            plan("nothing wanted, 1 ton", x, k, 1, 0, 0, 0, 0, 0, 0, 0, 0);
            plan("nothing wanted, 9 tons", x, k, 9, 0, 0, 0, 0, 0, 0, 0, 0);
        }
        x.thing(0, 3, 1, 0);
        noPlan("no bench, no stock, no gas", x, 0, 1);
    }

    private static void nightOf32Steps() {
        says(0, "A NIGHT: the 32 STEPS from NOW on");
        plan("enough for 32", leaky(320, 10), 1, 8, 0, 0, 0, 0, 0, 0, 0, 0);
        plan("enough for 31", leaky(319, 10), 1, 8, 0, 0, 0, 0, 0, 0, 0, 1);
        says(0, "it is SHORT if LEVEL is less");
        plan("wants of 99", leaky(32 * 50, 50), 1, 8, 0, 0, 0, 0, 0, 0, 0, 0);
        GasTown x = filled(0);
        plan("nothing of nothing", x, 0, 1, 0, 0, 0, 0, 0, 0, 0, 0);
        says(0, "GOOD: no STEP is SHORT");
        noPlan("the first step is short", leaky(0, 11), 1, 8);
        plan("the first step is not", leaky(1, 11), 1, 8, 1, 0, 0, 0, 0, 0, 0, 0);
        plan("just so", leaky(0, 10), 1, 8, 1, 0, 0, 0, 0, 0, 0, 0);
    }

    private static void places() {
        says(0, "come at the beginning of the 1st, 5th, .. 29th of these STEPS (eight places)");
        for (int p = 0; p < 8; p++) {
            // the first step that is SHORT is the first one of place p, or the last one ahead of the next place
            int[] due = new int[8];
            due[p] = 1;
            plan("short at the first step of " + p, leaky(40 * p, 10), 1, 8, due);
            plan("short at the last step of " + p, leaky(40 * p + 30, 10), 1, 8, due);
        }
        says(0, "in each LEVEL is more by what CHARGES make, from their own STEP on");
        for (int p = 1; p < 8; p++) {
            int[] due = new int[8];
            due[p - 1] = 1;
            // 10 in the first step of a charge are too few for 11
            plan("one place ahead of " + p, leaky(44 * p, 11), 1, 8, due);
        }
    }

    private static void handsOfNow() {
        says(0, "with HANDS for all CHARGES of that STEP (those done in NOW already count; none can always come)");
        GasTown x = leaky(0, 10);
        x.bench();
        x.coal(2, 10, 0, 0);
        x.buy(2, 1, 0);
        x.hands(2);
        noPlan("2 hands", x, 1, 8);
        x.hands(3);
        plan("3 hands", x, 1, 8, 1, 0, 0, 0, 0, 0, 0, 0);
        x.charge(1, 2, 1);
        noPlan("3 hands are at work", x, 1, 8);
        x.hands(5);
        noPlan("5 hands, 3 of them at work", x, 1, 8);
        x.hands(6);
        plan("6 hands, 3 of them at work", x, 1, 8, 1, 0, 0, 0, 0, 0, 0, 0);
        x.hands(0);
        x.cut(0, true);
        plan("none can always come", x, 1, 8, 0, 0, 0, 0, 0, 0, 0, 0);
    }

    private static void handsOfLaterSteps() {
        says(0, "those done in NOW count in NOW alone");
        GasTown x = leaky(50, 10);
        x.bench();
        x.coal(2, 10, 0, 0);
        x.buy(2, 1, 0);
        x.hands(3);
        x.charge(1, 2, 1);
        plan("hands of the second place", x, 1, 8, 0, 1, 0, 0, 0, 0, 0, 0);
        x.hands(2);
        noPlan("no hands of any place", x, 1, 8);
        says(0, "HANDS for all CHARGES of that STEP");
        GasTown y = leaky(0, 20);
        y.bench();
        y.hands(6);
        plan("two at once", y, 1, 8, 2, 0, 0, 0, 0, 0, 0, 0);
        y.hands(5);
        noPlan("5 hands for two", y, 1, 8);
    }

    private static void coldBenches() {
        says(0, "each into a COLD BENCH (those of now are COLD as theirs end)");
        // a charge of 720 with 4 steps left makes 40, 30, 20, 10; then 25 are wanted of a charge of 1800
        GasTown x = leaky(0, 25);
        x.coal(0, 200, 0, 0);
        x.buy(0, 99, 0);
        x.charge(0, 1, 8);
        x.cut(0, true);
        x.steps(12);
        x.cut(0, false);
        x.holder(0);
        x.holder(99999);
        plan("cold at the second place", x, 0, 9, 0, 1, 0, 0, 0, 0, 0, 0);
        GasTown y = leaky(0, 25);
        y.coal(0, 200, 0, 0);
        y.buy(0, 99, 0);
        y.charge(0, 1, 8);
        y.cut(0, true);
        y.steps(11);
        y.cut(0, false);
        y.holder(0);
        y.holder(99999);
        // 50 and 40, 30, 20, 10: the seventh step is short, ahead of the third place
        noPlan("not cold at the second place", y, 0, 9);
        y.bench();
        plan("another bench", y, 0, 9, 0, 1, 0, 0, 0, 0, 0, 0);
        says(0, "the BENCH of a CHARGE of now is COLD at the fifth place");
        GasTown z = leaky(0, 10);
        z.charge(0, 1, 8);
        // 720 less 320 are left
        plan("no more is wanted", z, 1, 8, 0, 0, 0, 0, 0, 0, 0, 0);
        z.cut(0, true);
        z.thing(0, 3, 10, 0);
        z.holder(60);
        // at the end of the 16th step 50, then five steps more
        plan("cold at the fifth place", z, 1, 8, 0, 0, 0, 0, 0, 1, 0, 0);
        z.holder(10);
        // at the end of the 16th step none
        plan("at once", z, 1, 8, 0, 0, 0, 0, 1, 0, 0, 0);
    }

    private static void ownCharges() {
        says(0, "each into a COLD BENCH");
        // 45 a step; 80 are the most that lack of 720 by its steps
        GasTown x = leaky(80, 45);
        plan("the bench again as it is COLD", x, 1, 8, 1, 0, 0, 0, 1, 0, 0, 0);
        GasTown y = leaky(79, 45);
        noPlan("one less", y, 1, 8);
        y.bench();
        y.hands(6);
        // the fourth step is short already, ahead of the second place
        plan("two benches", y, 1, 8, 2, 0, 0, 0, 0, 0, 0, 0);
        // 145 are enough ahead of the second place, not behind it
        GasTown v = leaky(145, 60);
        noPlan("the bench is not COLD at the second place", v, 1, 8);
        v.bench();
        plan("the first again at the sixth", v, 1, 8, 1, 1, 0, 0, 0, 1, 0, 0);
        // 80 are left of 160 behind the 16th step: four steps later they are gone
        GasTown u = leaky(160, 50);
        noPlan("the bench is not COLD at the fourth place", u, 1, 8);
        u.bench();
        plan("another at the fourth place", u, 1, 8, 1, 0, 0, 1, 0, 0, 0, 0);
        GasTown z = leaky(0, 60);
        for (int b = 1; b < 6; b++) {
            z.bench();
        }
        z.hands(30);
        plan("six at once", z, 1, 8, 6, 0, 0, 0, 0, 0, 0, 0);
        GasTown w = leaky(0, 60);
        for (int b = 1; b < 5; b++) {
            w.bench();
        }
        w.hands(30);
        noPlan("five benches for six", w, 1, 8);
    }

    private static void stockForAll() {
        says(0, "and STOCK for all");
        GasTown x = filled(80);
        x.thing(0, 3, 45, 0);
        x.coal(1, 90, 0, 0);
        x.buy(1, 15, 0);
        noPlan("15 tons for two of eight", x, 1, 8);
        x.buy(1, 1, 0);
        plan("16 tons for two of eight", x, 1, 8, 1, 0, 0, 0, 1, 0, 0, 0);
        x.coal(2, 90, 0, 0);
        noPlan("none of coal 2", x, 2, 8);
        says(0, "one charge of all that there is");
        GasTown y = filled(310);
        y.thing(0, 3, 10, 0);
        y.coal(1, 90, 0, 0);
        y.buy(1, 8, 0);
        plan("8 tons for one of eight", y, 1, 8, 0, 0, 0, 0, 0, 0, 0, 1);
        noPlan("8 tons for one of nine", y, 1, 9);
        plan("8 tons for one of seven", y, 1, 7, 0, 0, 0, 0, 0, 0, 0, 1);
    }

    private static void capacityAtMost() {
        says(0, "In each LEVEL is more by what CHARGES make (CAPACITY at most)");
        GasTown x = leaky(0, 10);
        plan("a great holder", x, 1, 8, 1, 0, 0, 0, 0, 0, 0, 0);
        x.holder(100);
        // 90 at the end of the 16th step: the 26th is short
        plan("a small one", x, 1, 8, 1, 0, 0, 0, 0, 0, 1, 0);
        x.holder(10);
        plan("just one step's", x, 1, 8, 1, 0, 0, 0, 1, 0, 0, 0);
        x.holder(9);
        noPlan("less than one step's", x, 1, 8);
        says(0, "then less by all WANTS");
        GasTown y = leaky(0, 10);
        y.charge(0, 1, 8);
        y.holder(10);
        same("the 17th step is short", y.last(), 16 + 16);
        y.holder(9);
        same("the first that makes 10 is short in 9", y.last(), 16);
    }

    private static void gasOfNow() {
        says(0, "(each W tons of one COAL, GAS as it is now)");
        GasTown x = leaky(0, 10);
        plan("720", x, 1, 8, 1, 0, 0, 0, 0, 0, 0, 0);
        noPlan("630: 8 in the first step", x, 1, 7);
        x.coal(1, 200, 0, 0);
        plan("800 of four tons", x, 1, 4, 1, 0, 0, 0, 0, 0, 0, 0);
        noPlan("600 of three tons", x, 1, 3);
        x.coal(1, 89, 0, 0);
        noPlan("712: 9 in the first step", x, 1, 8);
        plan("801 of nine tons", x, 1, 9, 1, 0, 0, 0, 0, 0, 0, 0);
        says(0, "a CHARGE of now makes what it makes");
        GasTown y = leaky(0, 10);
        y.charge(0, 1, 8);
        y.coal(1, 10, 0, 0);
        plan("720 still", y, 1, 8, 0, 0, 0, 0, 0, 0, 0, 0);
    }

    private static void wantsOfNow() {
        says(0, "(FOG, CUTS, CREDIT as they are now; a LEAK its W)");
        GasTown x = leaky(320, 10);
        x.gate(99);
        plan("a leak at a pressure of 99", x, 1, 8, 0, 0, 0, 0, 0, 0, 0, 0);
        x.gate(0);
        x.holder(319);
        plan("a leak at a pressure of 0", x, 1, 8, 0, 0, 0, 0, 0, 0, 0, 1);
        x.cut(0, true);
        plan("a leak that is cut", x, 1, 8, 0, 0, 0, 0, 0, 0, 0, 0);
        says(0, "CREDIT as it is now: it is not less by what would be taken");
        GasTown y = filled(0);
        y.thing(0, 2, 40, 0);
        y.coin(0, 1);
        same("10 at 4 o'clock", y.of(0, 0), 10);
        y.holder(0);
        same("at once", y.last(), 16);
        GasTown z = filled(400);
        z.thing(0, 2, 40, 0);
        z.coin(0, 1);
        // eight steps of 10, then eight of 40
        same("at 8 o'clock", z.last(), 16 + 16);
        z.holder(399);
        same("one step sooner", z.last(), 16 + 15);
        GasTown w = filled(200);
        w.thing(0, 2, 99, 0);
        w.coin(0, 1);
        // 24 at 4 and 5 o'clock, then 50 for 99
        same("at 6 o'clock there are 8", w.last(), 24);
        says(0, "FOG of each DAY");
        GasTown v = filled(320);
        v.thing(0, 1, 10, 0);
        v.fog(0, 2);
        plan("fog all day", v, 0, 1, 0, 0, 0, 0, 0, 0, 0, 0);
        v.holder(319);
        noPlan("fog all day", v, 0, 1);
        v.fog(0, 1);
        v.fog(1, 3);
        v.holder(120);
        plan("12 steps up to dawn", v, 0, 1, 0, 0, 0, 0, 0, 0, 0, 0);
        v.holder(119);
        noPlan("12 steps up to dawn", v, 0, 1);
    }

    private static void fewestAndFirst() {
        says(0, "THE BEST: the fewest CHARGES");
        GasTown x = leaky(0, 10);
        x.bench();
        x.hands(30);
        plan("one of eight tons", x, 1, 8, 1, 0, 0, 0, 0, 0, 0, 0);
        // 360 of four tons: 5 in the first step, 2880 by 9 steps
        plan("two of four tons", x, 1, 4, 2, 0, 0, 0, 0, 0, 0, 0);
        says(0, "of several the first by the numbers at the 1st, 2nd .. place (the lesser first)");
        GasTown y = leaky(200, 20);
        y.bench();
        y.hands(30);
        // 640 are wanted, 440 lack: one of 720; at the third place it makes 10, 20, 30 for 20 of the 11th step on
        plan("as late as can be", y, 1, 8, 0, 0, 1, 0, 0, 0, 0, 0);
        GasTown z = leaky(190, 20);
        z.bench();
        z.hands(30);
        // 40 of ten steps: ahead of the third place 30 are left for 20 each
        plan("10 less", z, 1, 8, 0, 0, 1, 0, 0, 0, 0, 0);
        GasTown w = leaky(179, 20);
        w.bench();
        w.hands(30);
        // 19 are left and 10 come, then 9 and 20, then 9 and 30
        plan("just enough", w, 1, 8, 0, 0, 1, 0, 0, 0, 0, 0);
        GasTown v = leaky(169, 20);
        v.bench();
        v.hands(30);
        // 9 are left and 10 come: short
        plan("too few for the third place", v, 1, 8, 0, 1, 0, 0, 0, 0, 0, 0);
        says(0, "a lesser number at the 1st place goes ahead of a lesser one at the 2nd");
        GasTown u = leaky(100, 25);
        u.bench();
        u.hands(30);
        // 800 are wanted, 700 lack: one of 720 comes too late at the second place, and two are as few as can be
        plan("two or one", u, 1, 8, 1, 0, 0, 0, 0, 0, 0, 0);
    }

    private static void bestBehindTheLastStep() {
        says(0, "the 32 STEPS from NOW on, though NOW is never above 3999");
        GasTown x = filled(320);
        for (int i = 0; i < 41; i++) {
            x.steps(96);
        }
        x.steps(3999 - 16 - 41 * 96);
        x.thing(0, 3, 10, 0);
        plan("enough for 32", x, 0, 1, 0, 0, 0, 0, 0, 0, 0, 0);
        same("the 33rd", x.last(), 3999 + 32);
        x.holder(319);
        noPlan("enough for 31", x, 0, 1);
        same("the 32nd", x.last(), 3999 + 31);
    }

    private static void lastOf192() {
        says(0, "LAST: the first of the 192 STEPS from NOW on that is SHORT");
        GasTown x = filled(192 * 9);
        x.thing(0, 3, 9, 0);
        none("enough for 192", x.last());
        x.holder(192 * 9 - 1);
        same("the 192nd", x.last(), 16 + 191);
        x.holder(191 * 9);
        same("the 192nd", x.last(), 16 + 191);
        x.holder(191 * 9 - 1);
        same("the 191st", x.last(), 16 + 190);
        x.holder(9);
        same("the second", x.last(), 17);
        x.holder(8);
        same("the first", x.last(), 16);
        x.holder(0);
        same("the first", x.last(), 16);
        says(33, "NONE if none is SHORT");
        x.cut(0, true);
        none("nothing is wanted", x.last());
        GasTown y = new GasTown();
        y.thing(0, 3, 1, 0);
        same("at STEP 0", y.last(), 0);
        says(0, "from NOW on");
        GasTown z = new GasTown();
        z.thing(0, 1, 1, 0);
        z.round(40, 10);
        z.steps(10);
        same("at dusk", z.last(), 40);
        z.steps(40);
        same("now", z.last(), 50);
    }

    private static void lastOfCharges() {
        says(0, "that is SHORT without another CHARGE");
        GasTown x = leaky(0, 10);
        x.charge(0, 1, 8);
        same("720 are 72 steps", x.last(), 16 + 72);
        x.cut(0, true);
        x.steps(8);
        x.cut(0, false);
        same("360 are made, 360 come", x.last(), 24 + 72);
        x.holder(30);
        // 80 and 80 .. come to 30: at the 8th step 10 come, 20 are left then; two steps more
        same("in a small holder", x.last(), 24 + 10);
        says(0, "quotients go downwards, step by step");
        GasTown y = filled(0);
        y.coal(0, 71, 0, 0);
        y.buy(0, 9, 0);
        y.charge(0, 0, 1);
        y.thing(0, 1, 1, 0);
        y.round(80, 40);
        same("71 by 72 in the first step", y.last(), 16);
        GasTown z = filled(0);
        z.coal(0, 72, 0, 0);
        z.buy(0, 9, 0);
        z.charge(0, 0, 1);
        z.thing(0, 1, 1, 0);
        z.round(80, 40);
        // 72 are made: 24 steps up to dawn, 16 from dusk on, 32 of the next day
        same("72 by 72", z.last(), 96 + 32);
    }

    private static void lastWants() {
        says(0, "then less by all WANTS, by the HOUR of each STEP");
        GasTown x = filled(8 * 5 + 16 * 20 + 9);
        x.thing(0, 0, 20, 0);
        // 5 at 4 and 5 o'clock, 20 from 6 to 9, then 10
        same("the first step at 10 o'clock", x.last(), 40);
        x.fog(0, 1);
        // 7, 30 and 15: 56, then ten steps of 30
        same("in fog", x.last(), 24 + 10);
        x.fog(0, 0);
        x.fog(1, 3);
        same("fog of another day", x.last(), 40);
        says(0, "SLOTS and LAMPS too");
        x.thing(0, 1, 3, 0);
        // eight steps of 8, then four of 23, and ten of 20
        same("a lamp up to dawn", x.last(), 28 + 10);
    }

    private static void sees() {
        GasTown x = new GasTown();
        says(34, "of a NODE (1 and more) 0 no gas, 1 gas, NONE nothing told: true; false if one can't be");
        no("the gate", x.sees(0, 0));
        no("the gate", x.sees(0, 1));
        no("the gate", x.sees(0, -1));
        no("a node that is not there", x.sees(1, 0));
        x.node(0, 1, 0);
        no("a node that is not there", x.sees(2, 0));
        no("-1", x.sees(-1, 0));
        no("16", x.sees(16, 0));
        no("2", x.sees(1, 2));
        no("-2", x.sees(1, -2));
        no("the least int", x.sees(1, Integer.MIN_VALUE));
        no("the greatest int", x.sees(Integer.MAX_VALUE, 1));
        same("nothing is told", x.find(0), 0);
        yes("no gas", x.sees(1, 0));
        same("one", x.find(0), 1);
        yes("no gas again", x.sees(1, 0));
        no("2", x.sees(1, 2));
        same("one still", x.find(0), 1);
        yes("gas", x.sees(1, 1));
        same("none", x.find(0), 0);
        yes("no gas", x.sees(1, 0));
        yes("nothing told", x.sees(1, -1));
        same("none", x.find(0), 0);
        yes("nothing told again", x.sees(1, -1));
    }

    private static void findArguments() {
        says(35, "or another what (10 + n: NODES that there are)");
        GasTown x = new GasTown();
        none("a net without pipes", x.find(11));
        x.node(0, 1, 0);
        x.node(1, 1, 0);
        int[] others = {-1, 2, 3, 9, 10, 13, 14, 25, 26, 110, Integer.MIN_VALUE, Integer.MIN_VALUE + 11, Integer.MAX_VALUE};
        for (int what : others) {
            none("what " + what, x.find(what));
        }
        same("node 1", x.find(11), 0);
        same("node 2", x.find(12), 0);
        for (int n = 3; n <= 15; n++) {
            x.node(n - 1, 1, 0);
        }
        same("node 15", x.find(25), 0);
        none("node 16", x.find(26));
        x.sees(15, 0);
        same("one of fifteen", x.find(0), 1);
        same("fifteen sets", x.find(1), 15);
        same("in some", x.find(11), 1);
        same("in some", x.find(25), 1);
        for (int what : others) {
            if (what != 13 && what != 14 && what != 25) {
                none("what " + what, x.find(what));
            }
        }
        says(35, "NONE if no set EXPLAINS");
        x.sees(14, 0);
        x.sees(15, 1);
        none("how many", x.find(0));
        none("sets", x.find(1));
        none("node 1", x.find(11));
        none("node 15", x.find(25));
    }

    private static void explains() {
        says(0, "each NODE that is told without gas has one of them on its way from the gate");
        GasTown x = new GasTown();
        x.node(0, 1, 0);
        x.node(1, 1, 0);
        x.node(1, 1, 0);
        x.node(0, 1, 0);
        same("nothing told: the empty set", x.find(1), 1);
        same("of no pipe", x.find(0), 0);
        x.sees(2, 0);
        same("its own or its parent's", x.find(1), 2);
        same("one", x.find(0), 1);
        int[] some = {1, 1, 0, 0};
        for (int n = 1; n <= 4; n++) {
            same("pipe of " + n, x.find(10 + n), some[n - 1]);
        }
        says(0, "and none that is told with gas has");
        x.sees(3, 1);
        same("its own alone", x.find(1), 1);
        int[] all = {0, 2, 0, 0};
        for (int n = 1; n <= 4; n++) {
            same("pipe of " + n, x.find(10 + n), all[n - 1]);
        }
        x.sees(3, -1);
        x.sees(4, 1);
        same("another way's gas does not matter", x.find(1), 2);
        x.sees(2, 1);
        same("gas everywhere", x.find(0), 0);
        same("the empty set", x.find(1), 1);
        x.sees(1, 0);
        none("no gas ahead of gas", x.find(0));
        x.sees(1, 1);
        same("gas ahead of gas", x.find(0), 0);
        says(0, "WATER itself does not matter");
        x.water(2, true);
        same("the empty set", x.find(0), 0);
    }

    private static void fewestPipes() {
        says(0, "THE FEWEST: the sets of the fewest PIPES that EXPLAIN");
        GasTown x = new GasTown();
        x.node(0, 1, 0);
        x.node(1, 1, 0);
        x.node(1, 1, 0);
        x.node(0, 1, 0);
        x.node(4, 1, 0);
        x.sees(2, 0);
        x.sees(3, 0);
        same("one for both", x.find(0), 1);
        same("one set", x.find(1), 1);
        same("in all", x.find(11), 2);
        same("in none, though it would explain with another", x.find(12), 0);
        x.sees(5, 0);
        same("two", x.find(0), 2);
        same("two sets", x.find(1), 2);
        same("in all", x.find(11), 2);
        same("in some", x.find(14), 1);
        same("in some", x.find(15), 1);
        x.sees(4, 0);
        same("two", x.find(0), 2);
        same("one set", x.find(1), 1);
        same("in all", x.find(14), 2);
        same("in none", x.find(15), 0);
        x.sees(1, 1);
        same("three", x.find(0), 3);
        same("in none", x.find(11), 0);
        same("in all", x.find(12), 2);
        same("in all", x.find(13), 2);
        says(35, "2 it is in all sets, 1 in some, 0 in none");
        GasTown z = new GasTown();
        z.node(0, 1, 0);
        z.node(1, 1, 0);
        z.node(1, 1, 0);
        z.node(3, 1, 0);
        z.sees(1, 1);
        z.sees(2, 0);
        z.sees(4, 0);
        same("two", z.find(0), 2);
        same("two sets", z.find(1), 2);
        int[] due = {0, 2, 1, 1};
        for (int n = 1; n <= 4; n++) {
            same("pipe of " + n, z.find(10 + n), due[n - 1]);
        }
        says(35, "what 1 how many sets");
        GasTown y = new GasTown();
        for (int i = 0; i < 5; i++) {
            int a = y.node(0, 1, 0);
            int b = y.node(a, 1, 0);
            y.sees(y.node(b, 1, 0), 0);
        }
        same("five", y.find(0), 5);
        same("three to the fifth", y.find(1), 243);
        for (int n = 1; n <= 15; n++) {
            same("in some", y.find(10 + n), 1);
        }
    }

    private static void work() {
        GasTown x = new GasTown();
        x.node(0, 5, 0);
        says(36, "A WORK: its number; NONE if one can't be");
        none("the gate", x.work(0, 1, 1));
        none("a node that is not there", x.work(2, 1, 1));
        none("-1", x.work(-1, 1, 1));
        none("16", x.work(16, 1, 1));
        none("resistance 0", x.work(1, 0, 1));
        none("resistance 10", x.work(1, 10, 1));
        none("coin 0", x.work(1, 1, 0));
        none("coin -1", x.work(1, 1, -1));
        none("coin 1000", x.work(1, 1, 1000));
        none("the least int", x.work(Integer.MIN_VALUE, 1, 1));
        none("the greatest int", x.work(1, Integer.MAX_VALUE, 1));
        same("the least", x.work(1, 1, 1), 0);
        same("the greatest", x.work(1, 9, 999), 1);
        says(36, "or there are eight");
        for (int i = 2; i < 8; i++) {
            same("work", x.work(1, 1, 1), i);
        }
        none("the ninth", x.work(1, 1, 1));
        none("the ninth", x.work(1, 9, 999));
    }

    private static void choiceArguments() {
        says(37, "for so much COIN (0 .. 9999) in a STEP 0 .. 3999: NONE if one can't be, or another what");
        GasTown x = new GasTown();
        x.node(0, 1, 0);
        x.work(1, 2, 1);
        for (int what = 0; what <= 2; what++) {
            none("coin -1", x.choice(-1, 0, what));
            none("coin 10000", x.choice(10000, 0, what));
            none("step -1", x.choice(0, -1, what));
            none("step 4000", x.choice(0, 4000, what));
            none("the least int", x.choice(Integer.MIN_VALUE, 0, what));
            none("the greatest int", x.choice(0, Integer.MAX_VALUE, what));
            same("coin 0", x.choice(0, 0, what), 0);
            same("coin 9999", x.choice(9999, 0, what), 0);
            same("step 3999", x.choice(0, 3999, what), 0);
        }
        none("what 3", x.choice(0, 0, 3));
        none("what -1", x.choice(0, 0, -1));
        none("the greatest int", x.choice(0, 0, Integer.MAX_VALUE));
    }

    /** What THE CHOICE is: set, things, coin. */
    private static void choice(GasTown x, int coin, int step, int set, int things, int price) {
        same("set for " + coin, x.choice(coin, step, 0), set);
        same("things for " + coin, x.choice(coin, step, 1), things);
        same("coin for " + coin, x.choice(coin, step, 2), price);
    }

    /** Pipes of RESISTANCE 9 from a gate of 20, each to houses of 24: by night they burn, by day they lack 2. */
    private static GasTown pipes(int... houses) {
        GasTown x = new GasTown();
        x.gate(20);
        for (int i = 0; i < houses.length; i++) {
            x.node(0, 9, 0);
            for (int j = 0; j < houses[i]; j++) {
                x.thing(i + 1, 0, 24, 0);
            }
        }
        return x;
    }

    private static void purse() {
        says(0, "THE CHOICE for so much COIN");
        GasTown x = pipes(1, 1);
        x.work(1, 1, 10);
        x.work(2, 1, 999);
        choice(x, 0, 24, 0, 0, 0);
        choice(x, 9, 24, 0, 0, 0);
        choice(x, 10, 24, 1, 1, 10);
        choice(x, 998, 24, 1, 1, 10);
        choice(x, 1008, 24, 1, 1, 10);
        choice(x, 1009, 24, 3, 2, 1009);
        choice(x, 9999, 24, 3, 2, 1009);
        choice(x, 9999, 0, 0, 2, 0);
        says(0, "all eight WORKS at their dearest");
        GasTown y = pipes(1, 1, 1, 1, 1, 1, 1, 1);
        for (int n = 1; n <= 8; n++) {
            y.work(n, 1, 999);
        }
        choice(y, 9999, 24, 255, 8, 7992);
        choice(y, 7992, 24, 255, 8, 7992);
        choice(y, 7991, 24, 127, 7, 6993);
        choice(y, 999, 24, 1, 1, 999);
    }

    private static void mostCheapestLeast() {
        says(0, "the set that lets burn the most");
        GasTown x = pipes(1, 2);
        x.work(1, 1, 5);
        x.work(2, 1, 20);
        choice(x, 20, 24, 2, 2, 20);
        choice(x, 24, 24, 2, 2, 20);
        choice(x, 19, 24, 1, 1, 5);
        choice(x, 25, 24, 3, 3, 25);
        says(0, "of several the cheapest");
        GasTown y = pipes(1, 1, 1);
        y.work(1, 1, 9);
        y.work(2, 1, 8);
        y.work(3, 1, 7);
        choice(y, 9, 24, 4, 1, 7);
        choice(y, 15, 24, 6, 2, 15);
        choice(y, 17, 24, 6, 2, 15);
        choice(y, 23, 24, 6, 2, 15);
        choice(y, 24, 24, 7, 3, 24);
        says(0, "of several the least as a number (WORK i counts 2 to the i)");
        GasTown z = pipes(1, 1, 1);
        z.work(1, 1, 7);
        z.work(2, 1, 7);
        z.work(3, 1, 7);
        choice(z, 7, 24, 1, 1, 7);
        choice(z, 14, 24, 3, 2, 14);
        choice(z, 20, 24, 3, 2, 14);
        GasTown w = pipes(2, 1, 1);
        w.work(3, 1, 5);
        w.work(2, 1, 5);
        w.work(1, 1, 10);
        // two of 5 or one of 10: two burn for 10 either way
        choice(w, 10, 24, 3, 2, 10);
        GasTown v = pipes(1, 1, 2);
        v.work(3, 1, 10);
        v.work(2, 1, 5);
        v.work(1, 1, 5);
        choice(v, 10, 24, 1, 2, 10);
        says(0, "works that help none are not in it");
        GasTown u = pipes(1, 0);
        u.work(2, 1, 1);
        u.work(1, 8, 1);
        choice(u, 99, 24, 0, 0, 0);
        u.work(1, 1, 1);
        choice(u, 99, 24, 4, 1, 1);
    }

    private static void whatBurns() {
        says(0, "the THINGS that are no LEAKS and WANT more than 0, at NODES with a PRESSURE of 20 and more");
        GasTown x = new GasTown();
        x.gate(20);
        x.node(0, 1, 0);
        x.node(0, 1, -1);
        x.node(0, 1, 1);
        int[] kinds = {0, 1, 2, 3};
        for (int n = 0; n <= 3; n++) {
            for (int kind : kinds) {
                x.thing(n, kind, 8, 0);
            }
        }
        // lamps and houses of the gate, of 1 and of 3; slots have no coins
        choice(x, 0, 0, 0, 6, 0);
        x.coin(6, 1);
        choice(x, 0, 0, 0, 7, 0);
        says(0, "a PRESSURE of 20 and more");
        x.gate(19);
        choice(x, 0, 0, 0, 2, 0);
        x.gate(18);
        choice(x, 0, 0, 0, 0, 0);
        x.gate(21);
        choice(x, 0, 0, 0, 9, 0);
        says(0, "and WANT more than 0");
        x.cut(0, true);
        choice(x, 0, 0, 0, 8, 0);
        x.thing(0, 0, 3, 0);
        choice(x, 0, 0, 0, 8, 0);
        x.thing(0, 0, 4, 0);
        choice(x, 0, 0, 0, 9, 0);
        says(0, "LEVEL does not matter: a net that is settled so, not a STEP");
        same("level", x.look(1), 0);
        says(0, "PIPES with WATER stay so");
        x.water(1, true);
        choice(x, 0, 0, 0, 6, 0);
    }

    private static void oneOfSeveral() {
        says(0, "(of several of one PIPE the one with the greatest number counts)");
        GasTown x = pipes(1);
        x.work(1, 1, 5);
        x.work(1, 8, 5);
        choice(x, 99, 24, 1, 1, 5);
        GasTown y = pipes(2, 1);
        y.work(1, 2, 5);
        y.work(2, 1, 5);
        y.work(1, 1, 6);
        // 48 at 1: by 2 lost 0; by 1 too
        choice(y, 99, 24, 3, 3, 10);
        GasTown z = pipes(3, 1);
        z.work(1, 2, 5);
        z.work(2, 1, 5);
        z.work(1, 1, 6);
        // 72 at 1: by 2 lost 1, by 1 none
        choice(z, 99, 24, 6, 4, 11);
        choice(z, 10, 24, 4, 3, 6);
        GasTown w = pipes(3, 1);
        w.work(1, 1, 6);
        w.work(2, 1, 5);
        w.work(1, 2, 1);
        choice(w, 99, 24, 3, 4, 11);
        says(36, "a WORK is not done yet");
        same("number", w.work(1, 1, 1), 3);
        w.steps(1);
        choice(w, 0, 24, 0, 0, 0);
    }

    private static void toldStep() {
        says(0, "THE NET being settled so in a told STEP");
        GasTown x = pipes(1);
        x.work(1, 1, 5);
        // 6 at night, 24, 12 and 48 by the hours
        choice(x, 99, 23, 0, 1, 0);
        choice(x, 99, 24, 1, 1, 5);
        choice(x, 99, 39, 1, 1, 5);
        // 12 are 19 and 20 by turns: 20 behind the 12th sweep
        choice(x, 99, 40, 0, 1, 0);
        choice(x, 99, 96, 0, 1, 0);
        x.fog(1, 3);
        choice(x, 99, 96, 1, 1, 5);
        choice(x, 99, 0, 0, 1, 0);
        x.fog(1, 0);
        x.fog(41, 3);
        choice(x, 99, 3999, 1, 1, 5);
        choice(x, 99, 41 * 96, 1, 1, 5);
        choice(x, 99, 40 * 96, 0, 1, 0);
        says(0, "a lamp by its round in the told STEP");
        GasTown y = new GasTown();
        y.thing(0, 1, 5, 3);
        choice(y, 0, 30, 0, 1, 0);
        choice(y, 0, 31, 0, 0, 0);
        choice(y, 0, 66, 0, 0, 0);
        choice(y, 0, 67, 0, 1, 0);
    }

    private static void questionsOnly() {
        says(37, "a question leaves the town as it is");
        GasTown x = rich();
        x.node(0, 9, 0);
        x.thing(1, 0, 90, 0);
        x.work(1, 1, 5);
        x.steps(1);
        GasTown y = rich();
        y.node(0, 9, 0);
        y.thing(1, 0, 90, 0);
        y.steps(1);
        x.choice(99, 70, 0);
        x.choice(99, 0, 1);
        x.best(0, 9, 0);
        x.last();
        x.sees(1, 0);
        x.find(1);
        for (int i = 0; i < 2; i++) {
            same("pressure", x.at(1, 0), y.at(1, 0));
            same("flow", x.at(1, 1), y.at(1, 1));
            same("took", x.of(0, 1), y.of(0, 1));
            same("level", x.look(1), y.look(1));
            same("why", x.why(1, 0), y.why(1, 0));
            same("now", x.look(0), 33 + i);
            x.steps(1);
            y.steps(1);
        }
    }
}
