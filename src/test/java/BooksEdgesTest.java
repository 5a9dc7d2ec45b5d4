/** The edges of readings, bills, tries and dividends, sentence by sentence: promises 18 to 20, 27 and 28. */
public final class BooksEdgesTest extends Check {
    public static void main(String[] args) {
        read();
        readingsInAll();
        right();
        rightsInAll();
        bill();
        known();
        units();
        frozenUnits();
        greatUnits();
        price();
        tries();
        shortOfCandles();
        share();
        canAndMay();
        gainKnownNow();
        end();
    }

    private static void read() {
        GasTown x = rich();
        for (int kind = 0; kind <= 3; kind++) {
            x.thing(0, kind, 20, 0);
        }
        x.thing(0, 0, 10, 0);
        says(18, "A READING of a HOUSE: its number; NONE if it is none");
        none("a lamp", x.read(1));
        none("a slot", x.read(2));
        none("a leak", x.read(3));
        none("thing 5", x.read(5));
        none("thing -1", x.read(-1));
        none("the least int", x.read(Integer.MIN_VALUE));
        none("the greatest int", x.read(Integer.MAX_VALUE));
        says(0, "READINGS of a HOUSE are numbered from 0 on");
        same("first", x.read(0), 0);
        same("second, in the same step", x.read(0), 1);
        same("first of another house", x.read(4), 0);
        x.steps(3);
        same("third", x.read(0), 2);
        same("second of the other", x.read(4), 1);
        says(0, "each has NOW, what the METER shows, and whether it is FROZEN");
        same("step", x.bill(0, 0, 35, 0), 32);
        same("step", x.bill(0, 2, 35, 0), 35);
        same("number", x.bill(0, 2, 35, 1), 60);
        same("number", x.bill(4, 1, 35, 1), 30);
        same("not frozen", x.bill(0, 2, 35, 2), 0);
        x.frost(0, true);
        same("nor afterwards", x.bill(0, 2, 35, 2), 0);
        x.steps(1);
        same("fourth", x.read(0), 3);
        same("frozen", x.bill(0, 3, 36, 2), 1);
        same("a frozen meter's number", x.bill(0, 3, 36, 1), 60);
        x.frost(0, false);
        same("still", x.bill(0, 3, 36, 2), 1);
        x.cut(4, true);
        same("a house that is cut", x.read(4), 2);
    }

    private static void readingsInAll() {
        says(18, "or there are 200");
        GasTown x = new GasTown();
        x.thing(0, 0, 1, 0);
        x.thing(0, 0, 1, 0);
        x.thing(0, 2, 1, 0);
        for (int i = 0; i < 150; i++) {
            same("of one", x.read(0), i);
        }
        none("a slot does not count", x.read(2));
        for (int i = 0; i < 50; i++) {
            same("of the other", x.read(1), i);
        }
        none("the 201st", x.read(0));
        none("the 201st", x.read(1));
        same("the 200th", x.bill(1, 49, 0, 1), 0);
        none("no more", x.bill(1, 50, 0, 1));
        none("no more", x.bill(0, 150, 0, 1));
        GasTown y = new GasTown();
        y.thing(0, 0, 1, 0);
        for (int i = 0; i < 200; i++) {
            same("of one alone", y.read(0), i);
        }
        none("the 201st", y.read(0));
        yes("the 200th is put right", y.right(0, 199, 5));
        no("the 201st is not", y.right(0, 200, 5));
        same("the 200th", y.bill(0, 199, 0, 1), 5);
    }

    private static void right() {
        GasTown x = rich();
        x.thing(0, 0, 20, 0);
        x.thing(0, 2, 20, 0);
        x.read(0);
        x.steps(2);
        x.read(0);
        says(19, "false, and nothing is done, if there is none such");
        no("reading 2", x.right(0, 2, 5));
        no("reading -1", x.right(0, -1, 5));
        no("a slot", x.right(1, 0, 5));
        no("thing 2", x.right(2, 0, 5));
        no("thing -1", x.right(-1, 0, 5));
        says(0, "to another number (0 .. 999999)");
        no("-1", x.right(0, 1, -1));
        no("1000000", x.right(0, 1, 1000000));
        no("the least int", x.right(0, 1, Integer.MIN_VALUE));
        no("the greatest int", x.right(0, 1, Integer.MAX_VALUE));
        same("as it was", x.bill(0, 1, 34, 1), 40);
        yes("0", x.right(0, 1, 0));
        same("0", x.bill(0, 1, 34, 1), 0);
        yes("999999", x.right(0, 1, 999999));
        same("999999", x.bill(0, 1, 34, 1), 999999);
        same("the other stays", x.bill(0, 0, 34, 1), 0);
        same("the meter stays", x.of(0, 2), 40);
    }

    private static void rightsInAll() {
        says(19, "or there are 100");
        GasTown x = new GasTown();
        x.thing(0, 0, 1, 0);
        x.thing(0, 0, 1, 0);
        x.read(0);
        x.read(1);
        x.read(0);
        for (int i = 0; i < 100; i++) {
            no("what can't be does not count", x.right(0, 0, -1));
            no("what can't be does not count", x.right(0, 2, 1));
            yes("put right", x.right(i % 2, 0, i + 1));
        }
        no("the 101st", x.right(0, 0, 7));
        no("the 101st", x.right(1, 0, 7));
        no("the 101st", x.right(0, 1, 7));
        same("as it was", x.bill(0, 0, 0, 1), 99);
        same("as it was", x.bill(1, 0, 0, 1), 100);
        same("as it was", x.bill(0, 1, 0, 1), 0);
    }

    private static void bill() {
        GasTown x = rich();
        x.thing(0, 0, 20, 0);
        x.thing(0, 1, 20, 0);
        tell(x, 0, 0, "price 3;");
        says(20, "NONE if there is none such (by it), one can't be, or another what");
        none("no reading", x.bill(0, 0, 32, 1));
        x.read(0);
        x.steps(2);
        x.read(0);
        for (int what = 0; what <= 4; what++) {
            none("reading 2", x.bill(0, 2, 34, what));
            none("reading -1", x.bill(0, -1, 34, what));
            none("a lamp", x.bill(1, 0, 34, what));
            none("thing 2", x.bill(2, 0, 34, what));
            none("thing -1", x.bill(-1, 0, 34, what));
            says(20, "as KNOWN at a STEP 0 .. NOW");
            none("known at -1", x.bill(0, 1, -1, what));
            none("known at NOW + 1", x.bill(0, 1, 35, what));
            none("the greatest int", x.bill(0, 1, Integer.MAX_VALUE, what));
            none("the least int", x.bill(0, 1, Integer.MIN_VALUE, what));
        }
        none("what 5", x.bill(0, 1, 34, 5));
        none("what -1", x.bill(0, 1, 34, -1));
        says(20, "(3, 4: j from 1 on)");
        same("step of 0", x.bill(0, 0, 34, 0), 32);
        same("number of 0", x.bill(0, 0, 34, 1), 0);
        same("frozen of 0", x.bill(0, 0, 34, 2), 0);
        none("units of 0", x.bill(0, 0, 34, 3));
        none("bill of 0", x.bill(0, 0, 34, 4));
        says(20, "what 0 its STEP, 1 its number, 2 1 if it is FROZEN, else 0, 3 UNITS, 4 THE BILL");
        long[] due = {34, 40, 0, 40, 120};
        for (int what = 0; what <= 4; what++) {
            same("what " + what, x.bill(0, 1, 34, what), due[what]);
        }
        says(20, "of a new object at STEP 0");
        GasTown y = new GasTown();
        y.thing(0, 0, 20, 0);
        y.read(0);
        same("known at 0", y.bill(0, 0, 0, 0), 0);
        none("known at 1", y.bill(0, 0, 1, 0));
    }

    private static void known() {
        says(0, "As KNOWN at a STEP: READINGS that were taken by it");
        GasTown x = rich();
        x.thing(0, 0, 20, 0);
        x.read(0);
        x.steps(2);
        x.read(0);
        x.steps(2);
        for (int known = 32; known <= 36; known++) {
            same("reading 0 at " + known, x.bill(0, 0, known, 0), 32);
            same("reading 1 at " + known, x.bill(0, 1, known, 0), known < 34 ? -1 : 34);
        }
        none("reading 0 at 31", x.bill(0, 0, 31, 0));
        none("reading 0 at 0", x.bill(0, 0, 0, 0));
        says(0, "each with the latest number it was put to by it");
        x.right(0, 1, 50);
        x.right(0, 1, 60);
        x.right(0, 0, 5);
        x.steps(1);
        x.right(0, 1, 45);
        same("taken", x.bill(0, 1, 34, 1), 40);
        same("ahead of it", x.bill(0, 1, 35, 1), 40);
        same("the latest of one step", x.bill(0, 1, 36, 1), 60);
        same("the latest", x.bill(0, 1, 37, 1), 45);
        same("units", x.bill(0, 1, 35, 3), 40);
        same("units", x.bill(0, 1, 36, 3), 55);
        same("units", x.bill(0, 1, 37, 3), 40);
        same("the first", x.bill(0, 0, 35, 1), 0);
        same("the first", x.bill(0, 0, 36, 1), 5);
        x.right(0, 1, 60);
        same("back to an earlier number", x.bill(0, 1, 37, 1), 60);
    }

    private static void units() {
        says(0, "else its number less that of j - 1, 0 at least");
        GasTown x = rich();
        x.thing(0, 0, 20, 0);
        x.read(0);
        x.steps(1);
        x.read(0);
        x.read(0);
        same("20", x.bill(0, 1, 33, 3), 20);
        same("0 in the same step", x.bill(0, 2, 33, 3), 0);
        x.right(0, 0, 20);
        same("20 less 20", x.bill(0, 1, 33, 3), 0);
        x.right(0, 0, 19);
        same("20 less 19", x.bill(0, 1, 33, 3), 1);
        x.right(0, 0, 21);
        same("20 less 21", x.bill(0, 1, 33, 3), 0);
        x.right(0, 0, 999999);
        same("20 less 999999", x.bill(0, 1, 33, 3), 0);
        same("its bill", x.bill(0, 1, 33, 4), 0);
    }

    private static void frozenUnits() {
        says(0, "UNITS of READING j - 1 (0 if that is 0)");
        GasTown x = rich();
        x.thing(0, 0, 20, 0);
        x.frost(0, true);
        x.read(0);
        x.steps(4);
        x.read(0);
        x.right(0, 1, 500);
        same("j - 1 is 0", x.bill(0, 1, 36, 3), 0);
        x.steps(4);
        x.read(0);
        same("of 0 units", x.bill(0, 2, 40, 3), 0);
        x.frost(0, false);
        x.read(0);
        same("a reading that is not frozen goes by numbers", x.bill(0, 3, 40, 3), 0);
        x.right(0, 3, 10);
        same("10 less 0", x.bill(0, 3, 40, 3), 10);
        x.frost(0, true);
        x.steps(3);
        x.read(0);
        says(0, "by those from j - 2 to j - 1 (0 if these are 0)");
        same("no steps from 2 to 3", x.bill(0, 4, 43, 3), 0);
        GasTown y = rich();
        y.thing(0, 0, 20, 0);
        y.read(0);
        y.steps(3);
        y.read(0);
        y.right(0, 1, 10);
        y.frost(0, true);
        says(0, "times the STEPS from j - 1 to j, by those from j - 2 to j - 1");
        y.read(0);
        same("no steps from 1 to 2", y.bill(0, 2, 35, 3), 0);
        GasTown z = rich();
        z.thing(0, 0, 20, 0);
        z.read(0);
        z.steps(3);
        z.read(0);
        z.right(0, 1, 10);
        z.frost(0, true);
        z.steps(2);
        z.read(0);
        same("10 times 2 by 3", z.bill(0, 2, 37, 3), 6);
        z.steps(5);
        z.read(0);
        same("6 times 5 by 2", z.bill(0, 3, 42, 3), 15);
        z.right(0, 2, 900);
        z.right(0, 3, 0);
        same("numbers of frozen readings do not count", z.bill(0, 2, 42, 3), 6);
        same("numbers of frozen readings do not count", z.bill(0, 3, 42, 3), 15);
        z.right(0, 1, 30);
        same("30 times 2 by 3", z.bill(0, 2, 42, 3), 20);
        same("20 times 5 by 2", z.bill(0, 3, 42, 3), 50);
        same("as known ahead of it", z.bill(0, 2, 41, 3), 6);
        z.frost(0, false);
        z.steps(1);
        z.read(0);
        same("the number less a frozen one's", z.bill(0, 4, 43, 3), 60 + 10);
    }

    private static void greatUnits() {
        says(0, "UNITS and A BILL beyond an int do not wrap");
        GasTown x = new GasTown();
        x.thing(0, 0, 0, 0);
        x.read(0);
        x.steps(1);
        x.read(0);
        x.right(0, 1, 999999);
        x.frost(0, true);
        for (int i = 0; i < 41; i++) {
            x.steps(96);
        }
        x.steps(62);
        x.read(0);
        tell(x, 0, 0, "price 9999;");
        long units = 999999L * 3998;
        same("units", x.bill(0, 2, 3999, 3), units);
        same("bill", x.bill(0, 2, 3999, 4), units * 9999);
        same("gain", x.share(0), (units + 999999L) * 9999);
        same("can", x.share(2), (units + 999999L) * 9999 / 100);
    }

    private static void price() {
        says(0, "THE DUE of price in the STEP of READING j (0 at least, 9999 at most, 0 without)");
        GasTown x = rich();
        x.thing(0, 0, 20, 0);
        x.read(0);
        x.steps(1);
        x.read(0);
        String[] prices = {"price 0;", "price 0 - 1;", "price 9998;", "price 9999;", "price 10000;", "price 99999;", "",
            "price 5 when hour = 9;", "price 5 when hour = 8;", "price 4 + short;", "price 7 + price;"};
        int[] due = {0, 0, 9998, 9999, 9999, 9999, 0, 0, 5, 4, 7};
        for (int i = 0; i < prices.length; i++) {
            tell(x, 0, 0, prices[i]);
            same(prices[i], x.bill(0, 1, 33, 4), 20L * due[i]);
            same(prices[i], x.share(0), 20L * due[i]);
        }
        says(0, "in the STEP of READING j");
        x.steps(3);
        x.read(0);
        tell(x, 0, 0, "price 2 when hour = 8; price 3 when hour = 9;");
        same("at 8", x.bill(0, 1, 36, 4), 40);
        same("at 9", x.bill(0, 2, 36, 4), 180);
        same("gain", x.share(0), 220);
        tell(x, 0, 1, "price 2;");
        same("not in force on day 0", x.bill(0, 1, 36, 4), 0);
    }

    private static void tries() {
        GasTown x = new GasTown();
        says(27, "NONE if it can't be");
        tell(x, 0, 0, "candles 200; fine 1;");
        none("-1", x.tries(-1));
        none("100", x.tries(100));
        none("the least int", x.tries(Integer.MIN_VALUE));
        none("the greatest int", x.tries(Integer.MAX_VALUE));
        same("nothing is added", x.look(12), 0);
        same("0", x.tries(0), 1);
        same("99", x.tries(99), 1);
        same("fines", x.look(12), 2);
        says(0, "if v is below THE DUE of candles");
        tell(x, 0, 0, "candles 50; fine 1;");
        same("51", x.tries(51), 0);
        same("50", x.tries(50), 0);
        same("49", x.tries(49), 1);
        same("fines", x.look(12), 3);
        tell(x, 0, 0, "candles 0; fine 1;");
        same("0 of 0", x.tries(0), 0);
        tell(x, 0, 0, "candles 1; fine 1;");
        same("0 of 1", x.tries(0), 1);
        tell(x, 0, 0, "fine 1;");
        same("no due of candles", x.tries(0), 0);
        tell(x, 0, 0, "candles 50 when hour = 1; fine 1;");
        same("none at 0", x.tries(0), 0);
        same("fines", x.look(12), 4);
        says(0, "(0 at least, 99999 at most, 0 without)");
        tell(x, 0, 0, "candles 50;");
        same("no due of fine", x.tries(0), 0);
        tell(x, 0, 0, "candles 50; fine 0 - 1;");
        same("below 0", x.tries(0), 0);
        tell(x, 0, 0, "candles 50; fine 99998;");
        same("99998", x.tries(0), 99998);
        tell(x, 0, 0, "candles 50; fine 99999;");
        same("99999", x.tries(0), 99999);
        tell(x, 0, 0, "candles 50; fine 99999 + 1;");
        same("100000", x.tries(0), 99999);
        tell(x, 0, 0, "candles 50; fine 99999 * 99999;");
        same("a product that wraps", x.tries(0), Math.max(0, Math.min(99999, 99999 * 99999)));
        tell(x, 0, 0, "candles 99999 * 99999; fine 99999 * 21474 + 69121;");
        same("candles that wrap", x.tries(99), 99999 * 99999 > 99 ? 99999 : 0);
        same("fines in all", x.look(12), 4 + 99998 + 99999 + 99999 + Math.max(0, Math.min(99999, 99999 * 99999))
                + (99999 * 99999 > 99 ? 99999 : 0));
    }

    private static void shortOfCandles() {
        says(0, "THE DUE of fine with short as what lacks");
        GasTown x = new GasTown();
        tell(x, 0, 0, "candles 30 + short; fine short * 100 + price; price 5 + short;");
        same("lacks 1", x.tries(29), 105);
        same("lacks 30", x.tries(0), 3005);
        same("lacks none", x.tries(30), 0);
        tell(x, 0, 0, "candles 30; fine 7 when short > 5; fine 3 when short < 3;");
        same("lacks 6", x.tries(24), 7);
        same("lacks 5", x.tries(25), 0);
        same("lacks 2", x.tries(28), 3);
        says(0, "A TRY of light, v 0 .. 99 candles, NOW");
        tell(x, 0, 0, "candles 30 when hour = 1; fine 9;");
        same("at 0", x.tries(0), 0);
        x.steps(4);
        same("at 1", x.tries(0), 9);
        tell(x, 0, 0, "candles 20 + fog * 10; fine 9;");
        same("25 of 20", x.tries(25), 0);
        x.fog(0, 1);
        same("25 of 30", x.tries(25), 9);
    }

    private static void share() {
        GasTown x = new GasTown();
        says(28, "NONE for another what");
        none("4", x.share(4));
        none("-1", x.share(-1));
        none("the least int", x.share(Integer.MIN_VALUE));
        none("the greatest int", x.share(Integer.MAX_VALUE));
        says(0, "GAIN: all BILLS as KNOWN NOW, and what was SOLD, less what was SPENT, less FINES");
        x.holder(99999);
        x.buy(0, 9, 2);
        same("less 18", x.share(0), -18);
        x.bench();
        x.charge(0, 0, 9);
        x.steps(16);
        x.sell(10, 3);
        same("and 30", x.share(0), 12);
        tell(x, 0, 0, "candles 9; fine 4; price 2;");
        x.tries(0);
        same("less 4", x.share(0), 8);
        x.thing(0, 0, 40, 0);
        x.thing(0, 0, 80, 0);
        x.read(1);
        x.read(0);
        x.steps(1);
        x.read(0);
        same("10 at 2", x.share(0), 28);
        x.read(1);
        same("20 at 2", x.share(0), 68);
        x.steps(1);
        x.read(0);
        same("10 at 2", x.share(0), 88);
        says(28, "questions leave GAIN as it is");
        x.bill(0, 1, 17, 3);
        x.due(2, 100, 5, 0);
        same("the same again", x.share(0), 88);
    }

    private static void canAndMay() {
        says(0, "CAN: GAIN by 100, 0 at least");
        GasTown x = new GasTown();
        x.coal(0, 100, 80, 0);
        x.buy(0, 9, 0);
        x.bench();
        x.charge(0, 0, 9);
        x.steps(16);
        tell(x, 0, 0, "dividend 50;");
        int[][] sold = {{99, 0}, {1, 1}, {99, 1}, {1, 2}};
        int gain = 0;
        for (int[] s : sold) {
            x.sell(1, s[0]);
            gain += s[0];
            same("gain", x.share(0), gain);
            same(gain + " by 100", x.share(2), s[1]);
            same("paid", x.share(3), s[1]);
        }
        x.buy(0, 1, 201);
        same("gain", x.share(0), -1);
        same("-1 by 100", x.share(2), 0);
        same("paid", x.share(3), 0);
        x.buy(0, 1, 999);
        same("-1000 by 100", x.share(2), 0);
        same("paid", x.share(3), 0);
        x.sell(20, 90);
        same("gain", x.share(0), 800);
        tell(x, 0, 0, "");
        says(0, "MAY: THE DUE of dividend NOW (0 at least, 0 without)");
        same("without", x.share(1), 0);
        says(0, "PAID would be the lesser one");
        String[] dividends = {"7", "8", "9", "0", "0 - 1", "99999", "6 + short", "hour + fog"};
        int[] due = {7, 8, 9, 0, 0, 99999, 6, 4};
        for (int i = 0; i < dividends.length; i++) {
            tell(x, 0, 0, "dividend " + dividends[i] + ";");
            same("may " + dividends[i], x.share(1), due[i]);
            same("can", x.share(2), 8);
            same("paid", x.share(3), Math.min(8, due[i]));
        }
        tell(x, 0, 0, "dividend 5 when hour = 5;");
        same("may at 4", x.share(1), 0);
        x.steps(4);
        same("may at 5", x.share(1), 5);
        tell(x, 0, 1, "dividend 5;");
        same("not in force", x.share(1), 0);
        x.buy(0, 1, 900);
        tell(x, 0, 0, "dividend 5;");
        same("may", x.share(1), 5);
        same("paid of none", x.share(3), 0);
    }

    private static void gainKnownNow() {
        says(0, "all BILLS as KNOWN NOW");
        GasTown x = rich();
        x.thing(0, 0, 20, 0);
        tell(x, 0, 0, "price 1;");
        x.read(0);
        x.steps(2);
        x.read(0);
        same("40", x.share(0), 40);
        x.right(0, 1, 100);
        same("put right now", x.share(0), 100);
        x.frost(0, true);
        x.steps(4);
        x.read(0);
        same("a frozen one: 100 times 4 by 2", x.share(0), 300);
        x.right(0, 0, 90);
        same("10, and 10 times 4 by 2", x.share(0), 30);
        tell(x, 0, 0, "price 3;");
        same("by the acts of now", x.share(0), 90);
    }
}
