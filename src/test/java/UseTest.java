/** What README.md shows, call by call. */
public final class UseTest {
    private static int wrong = 0;

    private static void same(String call, long got, long due) {
        if (got != due) {
            wrong++;
            System.out.println(call + " answered " + got + ", due is " + due);
        }
    }

    private static int tell(GasTown town, int act, int day, String text) {
        for (int i = 0; i < text.length(); i += 20) {
            town.feed(four(text, i), four(text, i + 4), four(text, i + 8), four(text, i + 12), four(text, i + 16));
        }
        town.end(text.length());
        return town.act(act, day);
    }

    private static int four(String text, int from) {
        int sum = 0;
        for (int i = from; i < from + 4; i++) {
            sum = sum << 8 | (i < text.length() ? text.charAt(i) : 32);
        }
        return sum;
    }

    public static void main(String[] args) {
        GasTown town = new GasTown();
        town.holder(5000);
        town.buy(0, 99, 10);
        int b = town.bench();
        same("charge", town.charge(b, 0, 9), 900);
        town.steps(16);
        int n = town.node(0, 5, 0);
        int house = town.thing(n, 0, 10, 0);
        town.read(house);
        same("steps", town.steps(16), 32);
        same("of", town.of(house, 1), 10);
        town.read(house);
        // eight steps of 10 / 4 ahead of 6 o'clock, eight of 10 behind it
        same("units", town.bill(house, 1, 32, 3), 8 * 2 + 8 * 10);
        // 804 gas: 80 till 10, 120 till 16, 560 till 23, 20 till midnight, then 2 a step
        same("last", town.last(), 108);
        same("act", tell(town, 0, 0, "price 3 when hour < 6; price 5; pressure 25 when fog = 0 and not hour < 6;"), 3);
        same("due", town.due(2, 32, 0, 0), 5);
        same("bill", town.bill(house, 1, 32, 4), 480);
        System.out.println(wrong == 0 ? "this is how it is used" : wrong + " answers are wrong");
        if (wrong != 0) {
            System.exit(1);
        }
    }
}
