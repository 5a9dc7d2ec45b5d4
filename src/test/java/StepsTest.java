import java.util.ArrayList;
import java.util.List;
import java.util.Random;

/** Random towns, played on step by step, against a second town that is written from the document anew. */
public final class StepsTest {
    private static int wrong = 0;
    private static Random random = new Random(5);

    private static int below(int n) {
        return random.nextInt(n);
    }

    private static void same(String what, long got, long due) {
        if (got != due) {
            wrong++;
            System.out.println(what + " answered " + got + ", due is " + due);
        }
    }

    private static final class Charge {
        int step;
        int bench;
        int tons;
        int gas;
        int coke;
        int tar;

        long upTo(int now) {
            int[] parts = {0, 1, 3, 6, 10, 15, 21, 28, 36, 44, 51, 57, 62, 66, 69, 71, 72};
            return (long) tons * gas * parts[Math.max(0, Math.min(16, now - step))] / 72;
        }
    }

    private static final class Node {
        int parent;
        int resistance;
        int height;
        boolean water;
        int pressure;
        int lastPressure;
        int lastFlow;
        boolean lastWater;
    }

    private static final class Thing {
        int node;
        int kind;
        int w;
        int place;
        boolean cut;
        boolean frozen;
        int coins;
        int want;
        int take;
        int took;
        int all;
        int meter;
        List<int[]> readings = new ArrayList<>();
    }

    private static final class Town {
        int now;
        int[] gas = {100, 100, 100};
        int[] coke = {60, 60, 60};
        int[] tar = {5, 5, 5};
        int[] stock = new int[3];
        int[] fog = new int[42];
        int benches;
        int hands = 6;
        int capacity;
        int level;
        int dusk = 64;
        int dawn = 28;
        int gate = 40;
        int off;
        int taken;
        int darks;
        int loose;
        int fails;
        boolean dark;
        List<Charge> charges = new ArrayList<>();
        List<Node> nodes = new ArrayList<>();
        List<Thing> things = new ArrayList<>();
        List<int[]> rights = new ArrayList<>();
        int readings;

        Town() {
            nodes.add(new Node());
            nodes.get(0).parent = -1;
        }

        // the one act of these towns: pressure 25 when hour > 8; price hour + fog;
        Integer duePressure() {
            return now / 4 % 24 > 8 ? 25 : null;
        }

        int price(int step) {
            return step / 4 % 24 + fog[step / 96];
        }

        int charge(int b, int k, int tons) {
            int done = 0;
            for (Charge c : charges) {
                if (c.bench == b && now < c.step + 16) {
                    return -1;
                }
                done += c.step == now ? 1 : 0;
            }
            if (b >= benches || stock[k] < tons || 3 * done + 3 > hands) {
                return -1;
            }
            Charge c = new Charge();
            c.step = now;
            c.bench = b;
            c.tons = tons;
            c.gas = gas[k];
            c.coke = coke[k];
            c.tar = tar[k];
            stock[k] -= tons;
            charges.add(c);
            return tons * gas[k];
        }

        long made(int step) {
            long sum = 0;
            for (Charge c : charges) {
                sum += c.upTo(step);
            }
            return sum;
        }

        int yard(boolean isCoke) {
            int sum = 0;
            for (Charge c : charges) {
                sum += now >= c.step + 16 ? c.tons * (isCoke ? c.coke : c.tar) : 0;
            }
            return sum;
        }

        int want(Thing t) {
            if (t.cut) {
                return 0;
            }
            int f = fog[now / 96];
            int hour = now / 4 % 24;
            int s = now % 96;
            int house = (hour <= 5 ? t.w / 4 : hour <= 9 ? t.w : hour >= 16 && hour <= 22 ? t.w * 2 : t.w / 2) * (2 + f) / 2;
            switch (t.kind) {
                case 0:
                    return house;
                case 1:
                    return s >= dusk + t.place || s < dawn + t.place || f > 1 ? t.w : 0;
                case 2:
                    return Math.min(house, 50 * t.coins - t.all);
                default:
                    return t.w;
            }
        }

        int flow(int n) {
            int sum = 0;
            for (Thing t : things) {
                for (int m = t.node; m >= 0; m = nodes.get(m).parent) {
                    sum += m == n ? t.take : 0;
                }
            }
            return sum;
        }

        void step() {
            level += made(now + 1) - made(now);
            off += Math.max(0, level - capacity);
            level = Math.min(level, capacity);
            for (Thing t : things) {
                t.want = want(t);
                t.take = t.want;
            }
            String ahead = "";
            boolean settled = false;
            for (int sweep = 1; sweep <= 12 && !settled; sweep++) {
                StringBuilder row = new StringBuilder();
                int[] flows = new int[nodes.size()];
                for (int n = 0; n < nodes.size(); n++) {
                    flows[n] = flow(n);
                }
                for (int n = 0; n < nodes.size(); n++) {
                    Node node = nodes.get(n);
                    if (n == 0) {
                        node.pressure = gate;
                    } else {
                        Node p = nodes.get(node.parent);
                        node.pressure = node.water || p.pressure == 0 ? 0 : Math.max(0,
                                p.pressure - node.resistance * flows[n] / 100 + node.height - p.height);
                    }
                    row.append(node.pressure).append(' ');
                }
                for (Thing t : things) {
                    int p = nodes.get(t.node).pressure;
                    t.take = t.kind == 3 ? (t.cut ? 0 : t.w * p / 20) : p < 20 ? t.want * p / 20 : t.want;
                }
                settled = row.toString().equals(ahead);
                ahead = row.toString();
            }
            loose += settled ? 0 : 1;
            int used = flow(0);
            dark = used > level;
            for (Thing t : things) {
                t.take = dark ? 0 : t.take;
            }
            used = flow(0);
            darks += dark ? 1 : 0;
            level -= used;
            taken += used;
            Integer due = duePressure();
            for (int n = 0; n < nodes.size(); n++) {
                Node node = nodes.get(n);
                node.lastPressure = dark ? 0 : node.pressure;
                node.lastFlow = flow(n);
                node.lastWater = node.water;
                boolean hungry = false;
                for (Thing t : things) {
                    hungry |= t.node == n && t.kind != 3 && t.want > 0;
                }
                fails += n > 0 && hungry && due != null && node.lastPressure < due ? 1 : 0;
            }
            for (Thing t : things) {
                t.took = t.take;
                t.all += t.take;
                t.meter += t.kind == 0 && !t.frozen ? t.take : 0;
            }
            now++;
        }

        int shown(int t, int j, int known) {
            int number = things.get(t).readings.get(j)[1];
            for (int[] r : rights) {
                if (r[0] == t && r[1] == j && r[3] <= known) {
                    number = r[2];
                }
            }
            return number;
        }

        long units(int t, int j, int known) {
            List<int[]> rows = things.get(t).readings;
            if (rows.get(j)[2] == 0) {
                return Math.max(0, shown(t, j, known) - shown(t, j - 1, known));
            }
            if (j < 2 || rows.get(j - 1)[0] == rows.get(j - 2)[0]) {
                return 0;
            }
            return units(t, j - 1, known) * (rows.get(j)[0] - rows.get(j - 1)[0]) / (rows.get(j - 1)[0] - rows.get(j - 2)[0]);
        }

        long bills() {
            long sum = 0;
            for (int t = 0; t < things.size(); t++) {
                for (int j = 1; j < things.get(t).readings.size(); j++) {
                    sum += units(t, j, now) * price(things.get(t).readings.get(j)[0]);
                }
            }
            return sum;
        }

        int why(int n, int what) {
            List<Integer> way = new ArrayList<>();
            for (int m = n; m > 0; m = nodes.get(m).parent) {
                way.add(0, m);
            }
            if (now == 0) {
                return -1;
            }
            if (nodes.get(n).lastPressure >= 20) {
                return what == 0 ? 0 : -1;
            }
            if (dark) {
                return what == 0 ? 1 : -1;
            }
            for (int m : way) {
                if (nodes.get(m).lastWater) {
                    return what == 0 ? 2 : m;
                }
            }
            int most = -1;
            int found = -1;
            for (int m : way) {
                int loss = nodes.get(m).resistance * nodes.get(m).lastFlow / 100;
                if (loss > most) {
                    most = loss;
                    found = m;
                }
            }
            return what == 0 ? 3 : found;
        }
    }

    private static void compareLooks(GasTown x, Town y) {
        long[] due = {y.now, y.level, y.made(y.now), y.off, y.taken, y.darks, y.loose, y.fails, y.yard(true), y.yard(false)};
        for (int what = 0; what < due.length; what++) {
            same("look " + what, x.look(what), due[what]);
        }
        same("gain", x.share(0), y.bills());
    }

    private static void compareNode(GasTown x, Town y, int n) {
        same("pressure", x.at(n, 0), y.nodes.get(n).lastPressure);
        same("flow", x.at(n, 1), y.nodes.get(n).lastFlow);
        same("water", x.at(n, 2), y.nodes.get(n).water ? 1 : 0);
        same("why", x.why(n, 0), y.why(n, 0));
        same("why, where", x.why(n, 1), y.why(n, 1));
    }

    private static void compareThing(GasTown x, Town y, int t) {
        Thing thing = y.things.get(t);
        same("wants", x.of(t, 0), y.want(thing));
        same("took", x.of(t, 1), thing.took);
        same("meter", x.of(t, 2), thing.meter);
        same("credit", x.of(t, 3), thing.kind == 2 ? 50 * thing.coins - thing.all : 0);
        same("took in all", x.of(t, 4), thing.all);
    }

    private static void compareBills(GasTown x, Town y, int t) {
        Thing thing = y.things.get(t);
        for (int j = 0; j < thing.readings.size(); j++) {
            int known = below(y.now + 1);
            int[] row = thing.readings.get(j);
            boolean is = row[0] <= known;
            same("step", x.bill(t, j, known, 0), is ? row[0] : -1);
            same("number", x.bill(t, j, known, 1), is ? y.shown(t, j, known) : -1);
            same("frozen", x.bill(t, j, known, 2), is ? row[2] : -1);
            same("units", x.bill(t, j, known, 3), is && j > 0 ? y.units(t, j, known) : -1);
            same("bill", x.bill(t, j, known, 4), is && j > 0 ? y.units(t, j, known) * y.price(row[0]) : -1);
        }
    }

    /** A look at some of a town that is played on: an object answers 512 calls. */
    private static void glance(GasTown x, Town y) {
        compareLooks(x, y);
        compareNode(x, y, below(y.nodes.size()));
        if (!y.things.isEmpty()) {
            compareThing(x, y, below(y.things.size()));
        }
    }

    private static void compareAll(GasTown x, Town y) {
        compareLooks(x, y);
        for (int n = 0; n < y.nodes.size(); n++) {
            compareNode(x, y, n);
        }
        for (int t = 0; t < y.things.size(); t++) {
            compareThing(x, y, t);
            compareBills(x, y, t);
        }
    }

    private static void put(GasTown x, Town y) {
        if (below(3) == 0) {
            Node n = new Node();
            n.parent = below(y.nodes.size());
            n.resistance = 1 + below(9);
            n.height = below(19) - 9;
            int number = x.node(n.parent, n.resistance, n.height);
            same("node", number, y.nodes.size() < 16 ? y.nodes.size() : -1);
            if (number >= 0) {
                y.nodes.add(n);
            }
        } else {
            Thing t = new Thing();
            t.node = below(y.nodes.size());
            t.kind = below(4);
            t.w = below(100) / (1 + below(9));
            t.place = t.kind == 1 ? below(16) : 0;
            int number = x.thing(t.node, t.kind, t.w, t.place);
            same("thing", number, y.things.size() < 40 ? y.things.size() : -1);
            if (number >= 0) {
                y.things.add(t);
            }
        }
    }

    private static void fit(GasTown x, Town y) {
        switch (below(7)) {
            case 0:
                y.hands = below(31);
                x.hands(y.hands);
                break;
            case 1:
                y.capacity = below(4) == 0 ? below(500) : 3000 + below(9000);
                x.holder(y.capacity);
                y.off += Math.max(0, y.level - y.capacity);
                y.level = Math.min(y.level, y.capacity);
                break;
            case 2:
                y.dusk = 40 + below(41);
                y.dawn = 10 + below(31);
                x.round(y.dusk, y.dawn);
                break;
            case 3:
                int day = below(6);
                y.fog[day] = below(4);
                x.fog(day, y.fog[day]);
                break;
            case 4:
                y.gate = below(3) == 0 ? below(20) : 20 + below(80);
                x.gate(y.gate);
                break;
            case 5:
                int k = below(3);
                y.gas[k] = 10 + below(191);
                y.coke[k] = below(81);
                y.tar[k] = below(21);
                x.coal(k, y.gas[k], y.coke[k], y.tar[k]);
                break;
            default:
                int kind = below(3);
                int tons = 1 + below(60);
                same("buy", x.buy(kind, tons, 0), y.stock[kind] += tons);
        }
    }

    private static void turn(GasTown x, Town y) {
        int n = below(y.nodes.size());
        if (below(4) == 0 && n > 0) {
            boolean is = below(3) == 0;
            same("water", x.water(n, is) ? 1 : 0, y.nodes.get(n).water != is ? 1 : 0);
            y.nodes.get(n).water = is;
        }
        if (y.things.isEmpty()) {
            return;
        }
        int t = below(y.things.size());
        Thing thing = y.things.get(t);
        boolean is = below(3) == 0;
        switch (below(5)) {
            case 0:
                same("cut", x.cut(t, is) ? 1 : 0, thing.cut != is ? 1 : 0);
                thing.cut = is;
                break;
            case 1:
                same("frost", x.frost(t, is) ? 1 : 0, thing.kind == 0 && thing.frozen != is ? 1 : 0);
                thing.frozen = thing.kind == 0 && is;
                break;
            case 2:
                int coins = 1 + below(5);
                thing.coins += thing.kind == 2 ? coins : 0;
                same("coin", x.coin(t, coins), thing.kind == 2 ? 50 * thing.coins - thing.all : -1);
                break;
            case 3:
                if (y.readings >= 12) {
                    break;
                }
                same("read", x.read(t), thing.kind == 0 ? thing.readings.size() : -1);
                if (thing.kind == 0) {
                    y.readings++;
                    thing.readings.add(new int[] {y.now, thing.meter, thing.frozen ? 1 : 0});
                }
                break;
            default:
                int j = below(6);
                int v = below(3000);
                same("right", x.right(t, j, v) ? 1 : 0, j < thing.readings.size() ? 1 : 0);
                if (j < thing.readings.size()) {
                    y.rights.add(new int[] {t, j, v, y.now});
                }
        }
    }

    private static int oneTown() {
        GasTown x = new GasTown();
        Town y = new Town();
        // "pressure 25 when hour > 8; price hour + fog;"
        x.feed(0x70726573, 0x73757265, 0x20323520, 0x7768656e, 0x20686f75);
        x.feed(0x72203e20, 0x383b2070, 0x72696365, 0x20686f75, 0x72202b20);
        x.feed(0x666f673b, 0x20202020, 0x20202020, 0x20202020, 0x20202020);
        same("act", x.act(0, 0), 2);
        y.capacity = 9000;
        x.holder(9000);
        for (int i = 0; i < 46; i++) {
            switch (below(6)) {
                case 0:
                    put(x, y);
                    break;
                case 1:
                    fit(x, y);
                    break;
                case 2:
                    if (y.benches < 6) {
                        same("bench", x.bench(), y.benches++);
                    }
                    break;
                case 3:
                    for (int b = 0; b < 6; b++) {
                        int k = below(3);
                        int tons = 1 + below(9);
                        same("charge", x.charge(b, k, tons), y.charge(b, k, tons));
                    }
                    break;
                case 4:
                    turn(x, y);
                    turn(x, y);
                    break;
                default:
                    int n = 1 + below(below(4) == 0 ? 30 : 3);
                    for (int s = 0; s < n; s++) {
                        y.step();
                    }
                    same("steps", x.steps(n), y.now);
                    glance(x, y);
            }
        }
        compareAll(x, y);
        return y.taken > 0 && y.darks > 0 && y.fails > 0 ? 1 : 0;
    }

    public static void main(String[] args) {
        int lively = 0;
        for (int i = 0; i < 8000 && wrong < 20; i++) {
            lively += oneTown();
        }
        System.out.println(lively + " lively towns");
        same("lively", lively > 300 ? 1 : 0, 1);
        System.out.println(wrong == 0 ? "both towns agree" : wrong + " answers are wrong");
        if (wrong != 0) {
            System.exit(1);
        }
    }
}
