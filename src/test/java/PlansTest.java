import java.util.Random;

/** Plans against trying out everything: charges of a night, sets of pipes, sets of works. */
public final class PlansTest {
    private static final int[] PARTS = {1, 3, 6, 10, 15, 21, 28, 36, 44, 51, 57, 62, 66, 69, 71, 72};
    private static int wrong = 0;
    private static final Random random = new Random(11);

    private static int below(int n) {
        return random.nextInt(n);
    }

    private static void same(String what, long got, long due) {
        if (got != due) {
            wrong++;
            System.out.println(what + " answered " + got + ", due is " + due);
        }
    }

    private static int made(int inAll, int i) {
        return i < 1 ? 0 : inAll * PARTS[Math.min(16, i) - 1] / 72;
    }

    // ---- best and last, against a town that is played on in a small model ----

    private static final class Model {
        int now;
        int level;
        int capacity;
        int hands;
        int used;
        int stock;
        int gas;
        // the step in which each bench was charged last, and with how much gas
        int[] since;
        int[] inAll;
        int[] wants = new int[200];

        int gasIn(int step) {
            int sum = 0;
            for (int b = 0; b < since.length; b++) {
                int i = step - since[b] + 1;
                if (i >= 1 && i <= 16) {
                    sum += made(inAll[b], i) - made(inAll[b], i - 1);
                }
            }
            return sum;
        }

        int last() {
            int l = level;
            for (int o = 0; o < 192; o++) {
                l = Math.min(capacity, l + gasIn(now + o));
                if (l < wants[o]) {
                    return now + o;
                }
                l -= wants[o];
            }
            return -1;
        }

        /** Plays a plan bench by bench. */
        boolean good(int[] plan, int tons) {
            int[] oldSince = since.clone();
            int[] oldIn = inAll.clone();
            boolean good = true;
            int l = level;
            int s = stock;
            for (int o = 0; o < 32 && good; o++) {
                if (o % 4 == 0) {
                    int n = plan[o / 4];
                    s -= n * tons;
                    good = s >= 0 && (n == 0 || 3 * (n + (o == 0 ? used : 0)) <= hands);
                    for (int b = 0; b < since.length && n > 0; b++) {
                        if (now + o - since[b] >= 16) {
                            since[b] = now + o;
                            inAll[b] = tons * gas;
                            n--;
                        }
                    }
                    good = good && n == 0;
                }
                l = Math.min(capacity, l + gasIn(now + o));
                good = good && l >= wants[o];
                l -= wants[o];
            }
            since = oldSince;
            inAll = oldIn;
            return good;
        }

        int[] best(int tons) {
            for (int all = 0; all <= 2 * since.length; all++) {
                int[] found = first(new int[8], 0, all, tons);
                if (found != null) {
                    return found;
                }
            }
            return null;
        }

        int[] first(int[] plan, int p, int left, int tons) {
            if (p == 7) {
                plan[7] = left;
                return left <= since.length && good(plan, tons) ? plan.clone() : null;
            }
            for (int n = 0; n <= left && n <= since.length; n++) {
                plan[p] = n;
                int[] found = first(plan, p + 1, left - n, tons);
                if (found != null) {
                    return found;
                }
            }
            plan[p] = 0;
            return null;
        }
    }

    private static int oneNight() {
        GasTown x = new GasTown();
        Model m = new Model();
        m.capacity = below(3) == 0 ? 300 + below(500) : 5000;
        m.hands = below(4) == 0 ? below(7) : 6 + below(12);
        m.gas = 60 + below(141);
        int benches = 1 + below(3);
        x.holder(m.capacity);
        x.coal(1, m.gas, 1, 1);
        x.buy(0, 500, 0);
        m.stock = below(4) == 0 ? 1 + below(40) : 100;
        x.buy(1, m.stock, 0);
        m.since = new int[benches];
        m.inAll = new int[benches];
        for (int b = 0; b < benches; b++) {
            x.bench();
            m.since[b] = -99;
        }
        for (int i = 0; i < 12; i++) {
            x.hands(30);
            for (int b = 0; b < benches; b++) {
                if (below(3) == 0) {
                    int tons = 1 + below(9);
                    if (x.charge(b, 0, tons) >= 0) {
                        m.since[b] = m.now;
                        m.inAll[b] = tons * 100;
                    }
                }
            }
            if (i < 11) {
                int go = 1 + below(6);
                for (int j = 0; j < go; j++) {
                    m.level = Math.min(m.capacity, m.level + m.gasIn(m.now));
                    m.now++;
                }
                x.steps(go);
            }
        }
        for (int b = 0; b < benches; b++) {
            m.used += m.since[b] == m.now ? 1 : 0;
        }
        x.hands(m.hands);
        // so much that it is neither hopeless nor enough
        int leak = below(m.level / 12 + 10) % 100;
        int house = below(2) * below(12);
        x.thing(0, 3, leak, 0);
        x.thing(0, 0, house, 0);
        int[] fogs = {below(4), below(4), below(4), below(4)};
        for (int d = 0; d < 4; d++) {
            x.fog(d, fogs[d]);
        }
        for (int o = 0; o < 192; o++) {
            int step = m.now + o;
            int hour = step / 4 % 24;
            int want = hour < 6 ? house / 4 : hour < 10 ? house : hour < 16 || hour == 23 ? house / 2 : house * 2;
            m.wants[o] = leak + want * (2 + fogs[step / 96]) / 2;
        }
        same("level", x.look(1), m.level);
        same("last", x.last(), m.last());
        int tons = 1 + below(9);
        int[] plan = m.best(tons);
        int all = 0;
        for (int p = 0; p < 8; p++) {
            same("best, place " + p, x.best(1, tons, p + 1), plan == null ? -1 : plan[p]);
            all += plan == null ? 0 : plan[p];
        }
        same("best", x.best(1, tons, 0), plan == null ? -1 : all);
        return plan == null ? 0 : all;
    }

    // ---- find ----

    private static void oneFind() {
        GasTown x = new GasTown();
        int nodes = 1 + below(9);
        int[] parent = new int[nodes + 1];
        int[] told = new int[nodes + 1];
        int[] way = new int[nodes + 1];
        for (int n = 1; n <= nodes; n++) {
            parent[n] = below(3) == 0 ? n - 1 : below(n);
            x.node(parent[n], 1, 0);
            way[n] = way[parent[n]] | 1 << n;
            int is = below(5);
            told[n] = is == 0 ? 1 : is < 3 ? 0 : -1;
            x.sees(n, told[n]);
        }
        int fewest = 99;
        int sets = 0;
        int[] in = new int[nodes + 1];
        for (int set = 0; set < 1 << (nodes + 1); set += 2) {
            boolean so = true;
            for (int n = 1; n <= nodes; n++) {
                so = so && !(told[n] == 0 && (way[n] & set) == 0) && !(told[n] == 1 && (way[n] & set) != 0);
            }
            int size = Integer.bitCount(set);
            if (!so || size > fewest) {
                continue;
            }
            if (size < fewest) {
                fewest = size;
                sets = 0;
                in = new int[nodes + 1];
            }
            sets++;
            for (int n = 1; n <= nodes; n++) {
                in[n] += set >> n & 1;
            }
        }
        same("find 0", x.find(0), sets == 0 ? -1 : fewest);
        same("find 1", x.find(1), sets == 0 ? -1 : sets);
        for (int n = 1; n <= nodes; n++) {
            same("find of " + n, x.find(10 + n), sets == 0 ? -1 : in[n] == sets ? 2 : in[n] > 0 ? 1 : 0);
        }
    }

    // ---- choice, against towns that are built so ----

    private static int oneChoice() {
        int nodes = 1 + below(5);
        int[] parent = new int[nodes + 1];
        int[] resistance = new int[nodes + 1];
        int[] height = new int[nodes + 1];
        for (int n = 1; n <= nodes; n++) {
            parent[n] = below(n);
            resistance[n] = 3 + below(7);
            height[n] = below(5) - 2;
        }
        int[][] things = new int[4 + below(14)][];
        for (int t = 0; t < things.length; t++) {
            int kind = below(4);
            things[t] = new int[] {below(nodes + 1), kind, 30 + below(70), kind == 1 ? below(16) : 0};
        }
        int works = below(6);
        int[] where = new int[works];
        int[] how = new int[works];
        int[] coin = new int[works];
        for (int i = 0; i < works; i++) {
            where[i] = 1 + below(nodes);
            how[i] = 1 + below(5);
            // another resistance than the pipe has
            how[i] = how[i] == resistance[where[i]] ? 2 : how[i];
            coin[i] = 1 + below(6);
        }
        int gate = 22 + below(15);
        int step = 16 + below(40);
        int purse = below(30);
        GasTown x = town(parent, resistance, height, things, gate, step);
        for (int i = 0; i < works; i++) {
            x.work(where[i], how[i], coin[i]);
        }
        int bestSet = -1;
        int bestBurn = -1;
        int bestCoin = 0;
        for (int set = 0; set < 1 << works; set++) {
            int cost = 0;
            int[] other = resistance.clone();
            for (int i = 0; i < works; i++) {
                if ((set >> i & 1) == 1) {
                    cost += coin[i];
                    other[where[i]] = how[i];
                }
            }
            if (cost > purse) {
                continue;
            }
            GasTown y = town(parent, other, height, things, gate, step);
            int[] wants = new int[things.length];
            for (int t = 0; t < things.length; t++) {
                wants[t] = y.of(t, 0);
            }
            y.steps(1);
            same("dark", y.look(5), 0);
            int burn = 0;
            for (int t = 0; t < things.length; t++) {
                burn += things[t][1] != 3 && wants[t] > 0 && y.at(things[t][0], 0) >= 20 ? 1 : 0;
            }
            if (burn > bestBurn || burn == bestBurn && cost < bestCoin) {
                bestSet = set;
                bestBurn = burn;
                bestCoin = cost;
            }
        }
        same("choice 0", x.choice(purse, step, 0), bestSet);
        same("choice 1", x.choice(purse, step, 1), bestBurn);
        same("choice 2", x.choice(purse, step, 2), bestCoin);
        return Integer.bitCount(bestSet);
    }

    /** A rich town with this net, at a step. */
    private static GasTown town(int[] parent, int[] resistance, int[] height, int[][] things, int gate, int step) {
        GasTown x = new GasTown();
        x.holder(99999);
        x.hands(30);
        x.coal(0, 200, 0, 0);
        x.buy(0, 9999, 0);
        for (int b = 0; b < 6; b++) {
            x.bench();
            x.charge(b, 0, 9);
        }
        x.steps(step);
        x.gate(gate);
        for (int n = 1; n < parent.length; n++) {
            x.node(parent[n], resistance[n], height[n]);
        }
        for (int t = 0; t < things.length; t++) {
            x.thing(things[t][0], things[t][1], things[t][2], things[t][3]);
            x.coin(t, 2);
        }
        return x;
    }

    public static void main(String[] args) {
        int charges = 0;
        for (int i = 0; i < 4000 && wrong < 20; i++) {
            charges += oneNight();
        }
        for (int i = 0; i < 2000 && wrong < 20; i++) {
            oneFind();
        }
        int chosen = 0;
        for (int i = 0; i < 4000 && wrong < 20; i++) {
            chosen += oneChoice();
        }
        System.out.println(charges + " charges planned, " + chosen + " works chosen");
        same("enough was tried", charges > 1500 && chosen > 400 ? 1 : 0, 1);
        System.out.println(wrong == 0 ? "all plans are the best" : wrong + " answers are wrong");
        if (wrong != 0) {
            System.exit(1);
        }
    }
}
