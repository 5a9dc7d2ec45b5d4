import java.util.ArrayList;
import java.util.List;
import java.util.Random;

/** The whole face at once: random runs of 512 calls, each answer held against a town that keeps lists and tries all. */
public final class WholeTest {
    private static final int[] S = {0, 1, 3, 6, 10, 15, 21, 28, 36, 44, 51, 57, 62, 66, 69, 71, 72};
    private static final String[] SUBJECTS = {"pressure", "candles", "price", "fine", "dividend"};
    private static final int NO = -1;

    private static final Random random = new Random(1816);
    private static final int[] counted = new int[40];
    private static int wrong = 0;
    private static int run = 0;

    private static int below(int n) {
        return random.nextInt(n);
    }

    private static int from(int least, int greatest) {
        return least + below(greatest - least + 1);
    }

    private static boolean in(int v, int least, int greatest) {
        return least <= v && v <= greatest;
    }

    /** Mostly a number of the range, now and then one at or beyond its ends. */
    private static int near(int least, int greatest) {
        switch (below(24)) {
            case 0:
                return least - 1;
            case 1:
                return greatest + 1;
            case 2:
                return least;
            case 3:
                return greatest;
            default:
                return from(least, greatest);
        }
    }

    private static void same(String call, long got, long due) {
        if (got != due) {
            wrong++;
            if (wrong < 40) {
                System.out.println("run " + run + ": " + call + " answered " + got + ", due is " + due);
            }
        }
    }

    private static void same(String call, boolean got, boolean due) {
        same(call, got ? 1 : 0, due ? 1 : 0);
    }

    // ---- the acts: a text is read anew each time that something is asked of it ----

    /** Reads a sound text from its beginning and counts what its lines tell. */
    private static final class Asked {
        final String[] words;
        final int[] known;
        int at;

        Asked(String text, int hour, int day, int fog, int price, int lacks) {
            words = text.replace(";", " ; ").replaceAll("([-+*/()<=>])", " $1 ").trim().split("[ \n]+");
            known = new int[] {hour, day, fog, price, lacks};
        }

        boolean eat(String word) {
            if (at < words.length && words[at].equals(word)) {
                at++;
                return true;
            }
            return false;
        }

        /** The numbers of the lines of a subject that tell, in their order. */
        List<Integer> tell(String subject) {
            List<Integer> told = new ArrayList<>();
            while (at < words.length && !words[at].isEmpty()) {
                String own = words[at++];
                int value = sum();
                boolean so = !eat("when") || any();
                at++;
                if (own.equals(subject) && so) {
                    told.add(value);
                }
            }
            return told;
        }

        boolean any() {
            boolean so = all();
            while (eat("or")) {
                so |= all();
            }
            return so;
        }

        boolean all() {
            boolean so = one();
            while (eat("and")) {
                so &= one();
            }
            return so;
        }

        boolean one() {
            if (eat("not")) {
                return !one();
            }
            if (eat("(")) {
                boolean so = any();
                at++;
                return so;
            }
            int left = sum();
            String sign = words[at++];
            int right = sum();
            return sign.equals("<") ? left < right : sign.equals("=") ? left == right : left > right;
        }

        int sum() {
            int value = product();
            while (true) {
                if (eat("+")) {
                    value += product();
                } else if (eat("-")) {
                    value -= product();
                } else {
                    return value;
                }
            }
        }

        int product() {
            int value = part();
            while (true) {
                if (eat("*")) {
                    value *= part();
                } else if (eat("/")) {
                    value /= part();
                } else {
                    return value;
                }
            }
        }

        int part() {
            String word = words[at++];
            switch (word) {
                case "hour":
                    return known[0];
                case "day":
                    return known[1];
                case "fog":
                    return known[2];
                case "price":
                    return known[3];
                case "short":
                    return known[4];
                default:
                    return Integer.parseInt(word);
            }
        }
    }

    private static String part() {
        return new String[] {"hour", "day", "fog", "price", "short", "" + below(12), "" + below(40), "" + below(99999)}[below(8)];
    }

    private static String sum() {
        String[] signs = {"+", " - ", "*", " / "};
        StringBuilder text = new StringBuilder(part());
        for (int i = below(3); i > 0; i--) {
            int sign = below(4);
            text.append(signs[sign]).append(sign == 3 ? "" + from(1, 9) : part());
        }
        return text.toString();
    }

    private static String test(int depth) {
        switch (depth > 4 ? 0 : below(6)) {
            case 1:
                return "not " + test(depth + 1);
            case 2:
                return "(" + test(depth + 1) + " or " + test(depth + 1) + ")";
            case 3:
                return "(" + test(depth + 1) + ") and " + test(depth + 1);
            default:
                return sum() + new String[] {"<", " = ", ">\n"}[below(3)] + sum();
        }
    }

    private static String line() {
        String own = SUBJECTS[below(5)];
        String value = below(3) == 0 ? sum() : "" + below(own.equals("candles") ? 60 : 45);
        return own + " " + value + (below(2) == 0 ? "" : " when " + test(0)) + ";";
    }

    // ---- the town ----

    private static final class Reading {
        int step;
        int number;
        boolean frozen;
        // step and number of each time that it was put right
        List<int[]> puts = new ArrayList<>();

        int shown(int known) {
            int shown = number;
            for (int[] put : puts) {
                shown = put[0] <= known ? put[1] : shown;
            }
            return shown;
        }
    }

    private static final class Town {
        int now;
        int hands = 6;
        int capacity;
        int level;
        int gate = 40;
        int dusk = 64;
        int dawn = 28;
        int benches;
        int size;
        int fault;
        int faultPlace = NO;
        int readings;
        int puts;
        boolean dark;
        long[] sums = new long[16];
        int[][] coal = {{100, 60, 5, 0}, {100, 60, 5, 0}, {100, 60, 5, 0}};
        int[] fog = new int[100];
        // bench, step, tons, gas, coke, tar
        List<int[]> charges = new ArrayList<>();
        // parent, resistance, height, water, told; then of the last step pressure, flow, water
        List<int[]> nodes = new ArrayList<>();
        // node, kind, w, place, cut, frozen, coins, meter; then what it took in the last step and in all
        List<int[]> things = new ArrayList<>();
        List<List<Reading>> books = new ArrayList<>();
        // node, resistance, coin
        List<int[]> works = new ArrayList<>();
        String[] acts = new String[4];
        int[] days = new int[4];
        String tape = "";

        Town() {
            nodes.add(new int[] {NO, 0, 0, 0, NO, 0, 0, 0});
        }

        // ---- works ----

        int gasIn(int step) {
            int all = 0;
            for (int[] c : charges) {
                int i = step - c[1] + 1;
                if (i >= 1 && i <= 16) {
                    all += c[2] * c[3] * S[i] / 72 - c[2] * c[3] * S[i - 1] / 72;
                }
            }
            return all;
        }

        boolean cold(int bench, int step) {
            for (int[] c : charges) {
                if (c[0] == bench && c[1] <= step && step < c[1] + 16) {
                    return false;
                }
            }
            return true;
        }

        int chargedIn(int step) {
            int n = 0;
            for (int[] c : charges) {
                n += c[1] == step ? 1 : 0;
            }
            return n;
        }

        int charge(int b, int k, int tons) {
            if (!in(b, 0, benches - 1) || !in(k, 0, 2) || !in(tons, 1, 9) || !cold(b, now)
                    || coal[k][3] < tons || 3 * chargedIn(now) + 3 > hands) {
                return NO;
            }
            coal[k][3] -= tons;
            charges.add(new int[] {b, now, tons, coal[k][0], coal[k][1], coal[k][2]});
            return tons * coal[k][0];
        }

        // ---- wants and settling ----

        int want(int t, int step) {
            int[] a = things.get(t);
            int hour = step % 96 / 4;
            int f = fog[step / 96];
            int[] hourly = {a[2] / 4, a[2] / 4, a[2] / 4, a[2] / 4, a[2] / 4, a[2] / 4, a[2], a[2], a[2], a[2], a[2] / 2,
                a[2] / 2, a[2] / 2, a[2] / 2, a[2] / 2, a[2] / 2, 2 * a[2], 2 * a[2], 2 * a[2], 2 * a[2], 2 * a[2],
                2 * a[2], 2 * a[2], a[2] / 2};
            if (a[4] == 1) {
                return 0;
            }
            if (a[1] == 3) {
                return a[2];
            }
            if (a[1] == 1) {
                return step % 96 >= dusk + a[3] || step % 96 < dawn + a[3] || f >= 2 ? a[2] : 0;
            }
            int house = hourly[hour] * (2 + f) / 2;
            return a[1] == 0 ? house : Math.min(house, credit(t));
        }

        int credit(int t) {
            return things.get(t)[1] == 2 ? 50 * things.get(t)[6] - things.get(t)[9] : 0;
        }

        boolean behind(int n, int above) {
            for (int m = n; m != NO; m = nodes.get(m)[0]) {
                if (m == above) {
                    return true;
                }
            }
            return false;
        }

        int flow(int n, int[] takes) {
            int all = 0;
            for (int t = 0; t < takes.length; t++) {
                all += behind(things.get(t)[0], n) ? takes[t] : 0;
            }
            return all;
        }

        /** The pressures, behind them 1 if it settled; takes hold the wants at first and what is taken at last. */
        int[] settle(int[] takes, int[] resistance) {
            int[] wants = takes.clone();
            int[] old = null;
            for (int sweep = 1; ; sweep++) {
                int[] p = new int[nodes.size() + 1];
                p[0] = gate;
                boolean same = old != null;
                for (int n = 1; n < nodes.size(); n++) {
                    int[] a = nodes.get(n);
                    p[n] = p[a[0]] - resistance[n] * flow(n, takes) / 100 + a[2] - nodes.get(a[0])[2];
                    p[n] = a[3] == 1 || p[a[0]] == 0 || p[n] < 0 ? 0 : p[n];
                    same = same && p[n] == old[n];
                }
                for (int t = 0; t < takes.length; t++) {
                    int here = p[things.get(t)[0]];
                    takes[t] = things.get(t)[1] == 3 || here < 20 ? wants[t] * here / 20 : wants[t];
                }
                if (same || sweep == 12) {
                    p[nodes.size()] = same ? 1 : 0;
                    return p;
                }
                old = p;
            }
        }

        int[] wants(int step) {
            int[] all = new int[things.size()];
            for (int t = 0; t < all.length; t++) {
                all[t] = want(t, step);
            }
            return all;
        }

        int[] resistances() {
            int[] all = new int[nodes.size()];
            for (int n = 0; n < all.length; n++) {
                all[n] = nodes.get(n)[1];
            }
            return all;
        }

        void step() {
            int gas = gasIn(now);
            sums[2] += gas;
            level += gas;
            standOff();
            int[] wants = wants(now);
            int[] takes = wants.clone();
            int[] p = settle(takes, resistances());
            sums[6] += 1 - p[nodes.size()];
            int used = 0;
            for (int take : takes) {
                used += take;
            }
            dark = level < used;
            if (dark) {
                sums[5]++;
                used = 0;
                p = new int[p.length];
                takes = new int[takes.length];
            }
            level -= used;
            sums[4] += used;
            int[] due = due(0, now, 0);
            for (int n = 0; n < nodes.size(); n++) {
                int[] a = nodes.get(n);
                a[5] = p[n];
                a[6] = flow(n, takes);
                a[7] = a[3];
                boolean asks = false;
                for (int t = 0; t < wants.length; t++) {
                    asks |= things.get(t)[0] == n && things.get(t)[1] != 3 && wants[t] > 0;
                }
                sums[7] += n > 0 && asks && due[1] != NO && p[n] < due[0] ? 1 : 0;
            }
            for (int t = 0; t < takes.length; t++) {
                int[] a = things.get(t);
                a[8] = takes[t];
                a[9] += takes[t];
                a[7] += a[1] == 0 && a[5] == 0 ? takes[t] : 0;
            }
            now++;
            for (int[] c : charges) {
                if (c[1] + 16 == now) {
                    sums[8] += c[2] * c[4];
                    sums[9] += c[2] * c[5];
                }
            }
        }

        void standOff() {
            if (level > capacity) {
                sums[3] += level - capacity;
                level = capacity;
            }
        }

        int[] why(int n) {
            if (now == 0 || !in(n, 0, nodes.size() - 1)) {
                return new int[] {NO, NO};
            }
            if (nodes.get(n)[5] >= 20) {
                return new int[] {0, NO};
            }
            if (dark) {
                return new int[] {1, NO};
            }
            int wet = NO;
            int worst = NO;
            int most = NO;
            // from the node up to the gate: what comes later is nearer to it
            for (int m = n; m > 0; m = nodes.get(m)[0]) {
                int[] a = nodes.get(m);
                wet = a[7] == 1 ? m : wet;
                int loss = a[1] * a[6] / 100;
                if (loss >= most) {
                    most = loss;
                    worst = m;
                }
            }
            return wet != NO ? new int[] {2, wet} : new int[] {3, worst};
        }

        // ---- dues and money ----

        int[] due(int s, int step, int lacks) {
            int day = step / 96;
            int price = s == 2 ? 0 : due(2, step, 0)[0];
            int[] found = {0, NO, 0};
            int latest = NO;
            for (int a = 0; a < 4; a++) {
                if (acts[a] == null || days[a] > day || days[a] < latest) {
                    continue;
                }
                List<Integer> told = new Asked(acts[a], step % 96 / 4, day, fog[day], price, lacks).tell(SUBJECTS[s]);
                if (!told.isEmpty()) {
                    latest = days[a];
                    boolean quarrel = told.stream().anyMatch(v -> !v.equals(told.get(0)));
                    found = new int[] {told.get(0), a, quarrel ? 1 : 0};
                }
            }
            return found;
        }

        long units(int t, int j, int known) {
            List<Reading> rows = books.get(t);
            Reading r = rows.get(j);
            if (j == 0) {
                return 0;
            }
            Reading before = rows.get(j - 1);
            if (!r.frozen) {
                return Math.max(0, r.shown(known) - before.shown(known));
            }
            int steps = j < 2 ? 0 : before.step - rows.get(j - 2).step;
            return steps == 0 ? 0 : units(t, j - 1, known) * (r.step - before.step) / steps;
        }

        long bill(int t, int j, int known) {
            return units(t, j, known) * Math.max(0, Math.min(9999, due(2, books.get(t).get(j).step, 0)[0]));
        }

        long share(int what) {
            long gain = sums[11] - sums[10] - sums[12];
            for (int t = 0; t < books.size(); t++) {
                for (int j = 1; j < books.get(t).size(); j++) {
                    gain += bill(t, j, now);
                }
            }
            long may = Math.max(0, due(4, now, 0)[0]);
            long can = gain < 0 ? 0 : gain / 100;
            return what == 0 ? gain : what == 1 ? may : what == 2 ? can : what == 3 ? Math.min(may, can) : NO;
        }

        long look(int what) {
            int burn = 0;
            for (int[] c : charges) {
                burn += now < c[1] + 16 ? 1 : 0;
            }
            sums[0] = now;
            sums[1] = level;
            sums[13] = things.size();
            sums[14] = nodes.size();
            sums[15] = burn;
            return in(what, 0, 15) ? sums[what] : NO;
        }

        // ---- plans ----

        int allWants(int step) {
            int all = 0;
            for (int want : wants(step)) {
                all += want;
            }
            return all;
        }

        int last() {
            int l = level;
            for (int step = now; step < now + 192; step++) {
                l = Math.min(capacity, l + gasIn(step)) - allWants(step);
                if (l < 0) {
                    return step;
                }
            }
            return NO;
        }

        int[] best(int k, int tons) {
            int[] wants = new int[32];
            for (int i = 0; i < 32; i++) {
                wants[i] = allWants(now + i);
            }
            for (int all = 0; all <= 2 * benches && all * tons <= coal[k][3]; all++) {
                int[] plan = first(new int[8], 0, all, tons * coal[k][0], wants);
                if (plan != null) {
                    return plan;
                }
            }
            return null;
        }

        int[] first(int[] plan, int place, int left, int gas, int[] wants) {
            if (place == 7) {
                plan[7] = left;
                return fits(plan, 7) && good(plan, gas, wants) ? plan : null;
            }
            for (int n = 0; n <= left; n++) {
                plan[place] = n;
                if (!fits(plan, place)) {
                    break;
                }
                int[] found = first(plan, place + 1, left - n, gas, wants);
                if (found != null) {
                    return found;
                }
            }
            plan[place] = 0;
            return null;
        }

        boolean fits(int[] plan, int place) {
            int n = plan[place];
            if (n == 0) {
                return true;
            }
            int step = now + 4 * place;
            int free = 0;
            for (int b = 0; b < benches; b++) {
                free += cold(b, step) ? 1 : 0;
            }
            for (int p = 0; p < place; p++) {
                free -= 4 * p + 16 > 4 * place ? plan[p] : 0;
            }
            return n <= free && 3 * (n + (place == 0 ? chargedIn(now) : 0)) <= hands;
        }

        boolean good(int[] plan, int gas, int[] wants) {
            int l = level;
            for (int i = 0; i < 32; i++) {
                l += gasIn(now + i);
                for (int p = 0; p < 8; p++) {
                    int j = i - 4 * p + 1;
                    l += j >= 1 && j <= 16 ? plan[p] * (gas * S[j] / 72 - gas * S[j - 1] / 72) : 0;
                }
                l = Math.min(l, capacity) - wants[i];
                if (l < 0) {
                    return false;
                }
            }
            return true;
        }

        /** How many pipes, how many sets, and in how many of them each pipe is; null if none explains. */
        int[] find() {
            int size = nodes.size();
            int[] way = new int[size];
            for (int n = 1; n < size; n++) {
                way[n] = way[nodes.get(n)[0]] | 1 << n;
            }
            int[] found = null;
            for (int set = 0; set < 1 << size; set += 2) {
                int many = Integer.bitCount(set);
                if (found != null && many > found[0]) {
                    continue;
                }
                boolean explains = true;
                for (int n = 1; n < size && explains; n++) {
                    int told = nodes.get(n)[4];
                    explains = told == NO || (told == 1) == ((set & way[n]) == 0);
                }
                if (!explains) {
                    continue;
                }
                if (found == null || many < found[0]) {
                    found = new int[10 + size];
                    found[0] = many;
                }
                found[1]++;
                for (int n = 1; n < size; n++) {
                    found[10 + n - 1] += set >> n & 1;
                }
            }
            return found;
        }

        int[] choice(int purse, int step) {
            int[] best = null;
            for (int set = (1 << works.size()) - 1; set >= 0; set--) {
                int coin = 0;
                int[] resistance = resistances();
                for (int i = 0; i < works.size(); i++) {
                    if ((set >> i & 1) == 1) {
                        coin += works.get(i)[2];
                        resistance[works.get(i)[0]] = works.get(i)[1];
                    }
                }
                if (coin > purse) {
                    continue;
                }
                int[] wants = wants(step);
                int[] p = settle(wants.clone(), resistance);
                int burn = 0;
                for (int t = 0; t < wants.length; t++) {
                    int[] a = things.get(t);
                    burn += a[1] != 3 && wants[t] > 0 && p[a[0]] >= 20 ? 1 : 0;
                }
                if (best == null || burn > best[1] || burn == best[1] && coin <= best[2]) {
                    best = new int[] {set, burn, coin};
                }
            }
            return best;
        }
    }

    // ---- one call ----

    private static int someThing(Town y) {
        return below(20) == 0 ? near(0, 39) : below(y.things.size() + 1) - (below(9) == 0 ? 1 : 0);
    }

    private static int someNode(Town y) {
        return below(20) == 0 ? near(0, 15) : below(y.nodes.size());
    }

    /** A thing of a kind, if there is one. */
    private static int ofKind(Town y, int kind) {
        for (int i = 0; i < 8; i++) {
            int t = someThing(y);
            if (in(t, 0, y.things.size() - 1) && y.things.get(t)[1] == kind) {
                return t;
            }
        }
        return someThing(y);
    }

    private static boolean is(Town y, int t, int kind) {
        return in(t, 0, y.things.size() - 1) && (kind == NO || y.things.get(t)[1] == kind);
    }

    private static void doWorks(GasTown x, Town y, int call) {
        int k = near(0, 2);
        switch (call) {
            case 2:
                int gas = below(3) == 0 ? near(10, 200) : from(120, 200);
                int coke = near(0, 80);
                int tar = near(0, 20);
                boolean can = in(k, 0, 2) && in(gas, 10, 200) && in(coke, 0, 80) && in(tar, 0, 20);
                if (can) {
                    y.coal[k] = new int[] {gas, coke, tar, y.coal[k][3]};
                }
                same("coal", x.coal(k, gas, coke, tar), can);
                break;
            case 3:
                int tons = below(6) == 0 ? near(1, 9999) : from(1, 300);
                int price = below(6) == 0 ? near(0, 999) : from(0, 3);
                boolean buys = in(k, 0, 2) && in(tons, 1, 9999) && in(price, 0, 999) && y.coal[k][3] + tons <= 9999;
                if (buys) {
                    y.coal[k][3] += tons;
                    y.sums[10] += tons * price;
                }
                same("buy", x.buy(k, tons, price), buys ? y.coal[k][3] : NO);
                break;
            case 4:
                same("bench", x.bench(), y.benches < 6 ? y.benches++ : NO);
                break;
            case 5:
                int b = near(0, Math.max(0, y.benches - 1));
                int w = near(1, 9);
                same("charge " + b + " " + k + " " + w, x.charge(b, k, w), y.charge(b, k, w));
                break;
            case 6:
                int n = below(9) == 0 ? near(0, 30) : from(6, 18);
                y.hands = in(n, 0, 30) ? n : y.hands;
                same("hands", x.hands(n), in(n, 0, 30));
                break;
            case 7:
                int c = below(9) == 0 ? near(0, 99999) : from(2000, 20000);
                y.capacity = in(c, 0, 99999) ? c : y.capacity;
                y.standOff();
                same("holder", x.holder(c), in(c, 0, 99999));
                break;
            case 8:
                int dusk = near(40, 80);
                int dawn = near(10, 40);
                boolean goes = in(dusk, 40, 80) && in(dawn, 10, 40);
                y.dusk = goes ? dusk : y.dusk;
                y.dawn = goes ? dawn : y.dawn;
                same("round", x.round(dusk, dawn), goes);
                break;
            default:
                int day = below(4) == 0 ? near(0, 41) : y.now / 96 + below(3);
                int f = near(0, 3);
                boolean may = in(day, 0, 41) && in(f, 0, 3);
                if (may) {
                    y.fog[day] = f;
                }
                same("fog", x.fog(day, f), may);
        }
    }

    private static void doNet(GasTown x, Town y, int call) {
        boolean is = below(3) > 0;
        int t = someThing(y);
        int n = someNode(y);
        switch (call) {
            case 10:
                int p = below(5) == 0 ? near(0, 99) : from(21, 36);
                y.gate = in(p, 0, 99) ? p : y.gate;
                same("gate", x.gate(p), in(p, 0, 99));
                break;
            case 11:
                int r = near(1, 9);
                int h = near(-9, 9);
                boolean lays = in(n, 0, y.nodes.size() - 1) && in(r, 1, 9) && in(h, -9, 9) && y.nodes.size() < 16;
                same("node", x.node(n, r, h), lays ? y.nodes.size() : NO);
                if (lays) {
                    y.nodes.add(new int[] {n, r, h, 0, NO, 0, 0, 0});
                }
                break;
            case 12:
                is = below(4) == 0;
                boolean turns = in(n, 1, y.nodes.size() - 1) && y.nodes.get(n)[3] == (is ? 0 : 1);
                if (turns) {
                    y.nodes.get(n)[3] = is ? 1 : 0;
                }
                same("water", x.water(n, is), turns);
                break;
            case 13:
                int kind = near(0, 3);
                int w = below(9) > 0 ? from(1, kind == 3 ? 6 : 24) : near(0, 99);
                int place = kind == 1 ? near(0, 15) : below(12) == 0 ? 1 : 0;
                boolean puts = in(n, 0, y.nodes.size() - 1) && in(kind, 0, 3) && in(w, 0, 99)
                        && in(place, 0, kind == 1 ? 15 : 0) && y.things.size() < 40;
                same("thing", x.thing(n, kind, w, place), puts ? y.things.size() : NO);
                if (puts) {
                    y.things.add(new int[] {n, kind, w, place, 0, 0, 0, 0, 0, 0});
                    y.books.add(new ArrayList<>());
                }
                break;
            case 14:
                is = below(3) == 0;
                boolean cuts = is(y, t, NO) && y.things.get(t)[4] == (is ? 0 : 1);
                if (cuts) {
                    y.things.get(t)[4] = is ? 1 : 0;
                }
                same("cut", x.cut(t, is), cuts);
                break;
            case 15:
                t = ofKind(y, 2);
                int coins = below(3) == 0 ? near(1, 99) : from(1, 3);
                boolean pays = is(y, t, 2) && in(coins, 1, 99);
                if (pays) {
                    y.things.get(t)[6] += coins;
                }
                same("coin", x.coin(t, coins), pays ? y.credit(t) : NO);
                break;
            default:
                t = ofKind(y, 0);
                boolean freezes = is(y, t, 0) && y.things.get(t)[5] == (is ? 0 : 1);
                if (freezes) {
                    y.things.get(t)[5] = is ? 1 : 0;
                }
                same("frost", x.frost(t, is), freezes);
        }
    }

    private static void doBooks(GasTown x, Town y, int call) {
        int t = ofKind(y, 0);
        int rows = is(y, t, 0) ? y.books.get(t).size() : 0;
        int j = below(8) == 0 ? near(0, rows) : below(Math.max(1, rows));
        boolean there = in(j, 0, rows - 1);
        switch (call) {
            case 17:
                int n = below(12) == 0 ? near(1, 96) : from(1, 9);
                boolean goes = in(n, 1, 96) && y.now + n <= 3999;
                for (int i = 0; i < n && goes; i++) {
                    y.step();
                }
                same("steps", x.steps(n), goes ? y.now : NO);
                break;
            case 18:
                boolean reads = is(y, t, 0) && y.readings < 200;
                same("read", x.read(t), reads ? rows : NO);
                if (reads) {
                    Reading r = new Reading();
                    r.step = y.now;
                    r.number = y.things.get(t)[7];
                    r.frozen = y.things.get(t)[5] == 1;
                    y.books.get(t).add(r);
                    y.readings++;
                }
                break;
            case 19:
                // never the number that it has: the words leave that open
                int v = below(9) == 0 ? near(0, 999999) : from(0, 2000);
                v = there && y.books.get(t).get(j).shown(y.now) == v ? v + 1 : v;
                boolean puts = there && in(v, 0, 999999) && y.puts < 100;
                if (puts) {
                    y.books.get(t).get(j).puts.add(new int[] {y.now, v});
                    y.puts++;
                }
                same("right", x.right(t, j, v), puts);
                break;
            case 20:
                int known = below(3) == 0 ? near(0, y.now) : y.now;
                int what = near(0, 4);
                boolean is = there && in(known, 0, y.now) && y.books.get(t).get(j).step <= known && (what < 3 || j > 0);
                long due = NO;
                if (is) {
                    Reading r = y.books.get(t).get(j);
                    due = what == 0 ? r.step : what == 1 ? r.shown(known) : what == 2 ? (r.frozen ? 1 : 0)
                            : what == 3 ? y.units(t, j, known) : what == 4 ? y.bill(t, j, known) : NO;
                }
                same("bill " + t + " " + j + " " + known + " " + what, x.bill(t, j, known, what), due);
                break;
            default:
                int coke = below(5) == 0 ? from(-1, 5000) : from(1, 200);
                int price = near(0, 99);
                boolean sells = coke > 0 && in(price, 0, 99) && coke <= y.sums[8];
                y.sums[8] -= sells ? coke : 0;
                y.sums[11] += sells ? coke * price : 0;
                same("sell", x.sell(coke, price), sells ? y.sums[8] : NO);
        }
    }

    private static int four(String text, int at) {
        return text.charAt(at) << 24 | text.charAt(at + 1) << 16 | text.charAt(at + 2) << 8 | text.charAt(at + 3);
    }

    /** A text comes to the tape, which may hold something, is cut to its length and told; how many calls. */
    private static int tell(GasTown x, Town y) {
        StringBuilder text = new StringBuilder();
        for (int i = below(6); i > 0 && text.length() < 300; i--) {
            text.append(line()).append(below(3) == 0 ? "\n" : "");
        }
        boolean sound = below(6) > 0;
        int length = text.length() + (sound ? 0 : 1);
        text.append(sound ? "" : ")");
        while (text.length() % 20 != 0) {
            text.append("?");
        }
        int calls = 0;
        for (int i = 0; i < text.length(); i += 20) {
            boolean fits = i + 20 <= 600;
            same("feed", x.feed(four(text.toString(), i), four(text.toString(), i + 4), four(text.toString(), i + 8),
                    four(text.toString(), i + 12), four(text.toString(), i + 16)), fits ? i + 20 : NO);
            calls++;
        }
        boolean fits = length <= 600;
        same("end", x.end(text.length() + 1), false);
        same("end", x.end(length), fits);
        int a = near(0, 3);
        int day = below(5) == 0 ? near(0, 41) : Math.max(0, y.now / 96 + from(-2, 1));
        boolean can = in(a, 0, 3) && in(day, 0, 41);
        String read = fits ? text.substring(0, length) : text.substring(0, 600);
        int lines = (int) read.chars().filter(c -> c == ';').count();
        if (!fits) {
            // cut off in its middle: whether what stands then is sound is for other tests
            same("end", x.end(0), true);
            lines = 0;
            read = "";
            sound = true;
        }
        same("act " + read, x.act(a, day), can && sound ? lines : NO);
        same("the tape is empty then", x.end(1), false);
        y.fault = can && !sound ? 1 : 0;
        y.faultPlace = can && !sound ? length - 1 : NO;
        if (can && sound) {
            y.acts[a] = read;
            y.days[a] = day;
        }
        return calls + 6;
    }

    private static void doActs(GasTown x, Town y, int call) {
        switch (call) {
            case 25:
                int w = near(0, 1);
                same("fault", x.fault(w), w == 0 ? y.fault : w == 1 ? y.faultPlace : NO);
                break;
            case 26:
                int s = near(0, 4);
                int step = below(4) == 0 ? near(0, 3999) : Math.min(3999, y.now + below(96));
                int lacks = below(50);
                int what = near(0, 2);
                boolean can = in(s, 0, 4) && in(step, 0, 3999) && in(what, 0, 2);
                same("due " + s + " " + step + " " + lacks + " " + what, x.due(s, step, lacks, what),
                        can ? y.due(s, step, lacks)[what] : NO);
                break;
            case 27:
                int v = near(0, 99);
                int fine = in(v, 0, 99) ? 0 : NO;
                int light = y.due(1, y.now, 0)[0];
                if (fine == 0 && v < light) {
                    fine = Math.max(0, Math.min(99999, y.due(3, y.now, light - v)[0]));
                    y.sums[12] += fine;
                }
                same("tries", x.tries(v), fine);
                break;
            default:
                int share = near(0, 3);
                same("share " + share, x.share(share), y.share(share));
        }
    }

    private static void doSeen(GasTown x, Town y, int call) {
        int n = someNode(y);
        boolean node = in(n, 0, y.nodes.size() - 1);
        int t = someThing(y);
        switch (call) {
            case 29:
                int at = near(0, 3);
                int[] a = node ? y.nodes.get(n) : null;
                same("at " + n + " " + at, x.at(n, at), !node ? NO : at == 0 ? a[5] : at == 1 ? a[6] : at == 2 ? a[3]
                        : at == 3 ? a[0] : NO);
                break;
            case 30:
                int of = near(0, 4);
                int[] b = is(y, t, NO) ? y.things.get(t) : null;
                same("of " + t + " " + of, x.of(t, of), b == null ? NO : of == 0 ? y.want(t, y.now) : of == 1 ? b[8]
                        : of == 2 ? b[7] : of == 3 ? y.credit(t) : of == 4 ? b[9] : NO);
                break;
            case 31:
                int why = near(0, 1);
                same("why " + n + " " + why, x.why(n, why), in(why, 0, 1) ? y.why(n)[why] : NO);
                break;
            default:
                int look = near(0, 15);
                same("look " + look, x.look(look), y.look(look));
        }
    }

    private static void doPlans(GasTown x, Town y, int call) {
        int n = someNode(y);
        switch (call) {
            case 32:
                int k = near(0, 2);
                int tons = near(1, 9);
                int place = near(0, 8);
                int[] plan = in(k, 0, 2) && in(tons, 1, 9) && in(place, 0, 8) ? y.best(k, tons) : null;
                int due = plan == null ? NO : place > 0 ? plan[place - 1] : 0;
                for (int i = 0; i < 8 && plan != null && place == 0; i++) {
                    due += plan[i];
                }
                same("best " + k + " " + tons + " " + place, x.best(k, tons, place), due);
                break;
            case 33:
                same("last", x.last(), y.last());
                break;
            case 34:
                int told = below(12) == 0 ? near(-1, 1) : from(-1, 1);
                boolean can = in(n, 1, y.nodes.size() - 1) && in(told, -1, 1);
                if (can) {
                    y.nodes.get(n)[4] = told;
                }
                same("sees", x.sees(n, told), can);
                break;
            case 35:
                int what = below(3) == 0 ? near(0, 1) : 10 + n;
                int[] found = in(what, 0, 1) || in(what, 11, 9 + y.nodes.size()) ? y.find() : null;
                int answer = found == null ? NO : what < 2 ? found[what]
                        : found[what - 1] == found[1] ? 2 : found[what - 1] > 0 ? 1 : 0;
                same("find " + what, x.find(what), answer);
                break;
            case 36:
                int r = near(1, 9);
                // never the resistance that it has: the words leave that open
                r = in(n, 1, y.nodes.size() - 1) && y.nodes.get(n)[1] == r ? r % 9 + 1 : r;
                int coin = below(9) == 0 ? near(1, 999) : from(1, 3);
                boolean works = in(n, 1, y.nodes.size() - 1) && in(r, 1, 9) && in(coin, 1, 999) && y.works.size() < 8;
                same("work", x.work(n, r, coin), works ? y.works.size() : NO);
                if (works) {
                    y.works.add(new int[] {n, r, coin});
                }
                break;
            default:
                int purse = below(4) == 0 ? near(0, 9999) : from(0, 12);
                int step = below(4) == 0 ? near(0, 3999) : Math.min(3999, y.now + below(96));
                int w = near(0, 2);
                boolean is = in(purse, 0, 9999) && in(step, 0, 3999) && in(w, 0, 2);
                same("choice " + purse + " " + step + " " + w, x.choice(purse, step, w), is ? y.choice(purse, step)[w] : NO);
        }
    }

    /** By the number of its promise; how many calls were made. */
    private static int doOne(GasTown x, Town y, int call) {
        counted[call]++;
        if (call <= 9) {
            doWorks(x, y, call);
        } else if (call <= 16) {
            doNet(x, y, call);
        } else if (call <= 21) {
            doBooks(x, y, call);
        } else if (call <= 24) {
            return tell(x, y);
        } else if (call <= 28) {
            doActs(x, y, call);
        } else if (call <= 31 || call == 38) {
            doSeen(x, y, call);
        } else {
            doPlans(x, y, call);
        }
        return 1;
    }

    /** What is called next: mostly what makes a town lively. */
    private static int next() {
        int[] often = {3, 5, 5, 5, 5, 5, 11, 13, 15, 17, 17, 17, 17, 18, 18, 19, 20, 20, 20, 24, 24, 27, 28, 29, 30, 31, 31, 32, 34, 35, 36, 37, 37};
        int call = below(3) > 0 ? often[below(often.length)] : from(2, 38);
        // what tears a town down comes seldom
        return (call == 12 || call == 10 || call == 14 || in(call, 22, 24)) && below(2) == 0 ? 17 : call;
    }

    private static int oneRun() {
        GasTown x = new GasTown();
        Town y = new Town();
        int calls = 0;
        int benches = below(9) == 0 ? 6 : from(2, 4);
        for (int b = 0; b < benches; b++) {
            calls += doOne(x, y, 4);
        }
        same("holder", x.holder(6000), true);
        y.capacity = 6000;
        same("hands", x.hands(3 * benches), true);
        y.hands = 3 * benches;
        same("buy", x.buy(0, 400, 1), 400);
        y.coal[0][3] = 400;
        y.sums[10] = 400;
        same("gate", x.gate(28), true);
        y.gate = 28;
        calls += 4;
        boolean late = below(40) == 0;
        for (int i = 0; i < 41 && late; i++) {
            same("steps", x.steps(96), 96 * (i + 1));
            for (int j = 0; j < 96; j++) {
                y.step();
            }
            calls++;
        }
        while (calls < 380) {
            int call = next();
            calls += doOne(x, y, call == 4 && below(6) > 0 ? 17 : call);
        }
        for (int what = 0; what < 16; what++) {
            same("look " + what, x.look(what), y.look(what));
        }
        for (int what = 0; what < 4; what++) {
            same("share " + what, x.share(what), y.share(what));
        }
        return y.sums[4] > 0 && y.sums[7] > 0 && y.readings > 2 ? 1 : 0;
    }

    public static void main(String[] args) {
        int runs = args.length > 0 ? Integer.parseInt(args[0]) : 300;
        int lively = 0;
        for (run = 0; run < runs && wrong < 20; run++) {
            lively += oneRun();
        }
        for (int call = 2; call < 39; call++) {
            // a text is fed, cut and told in one
            counted[call] += in(call, 22, 24) ? counted[22] + counted[23] + counted[24] : 0;
            same("promise " + call + " was called", counted[call] > 0, true);
        }
        same("enough is lively, of " + lively, lively > runs / 4, true);
        System.out.println(lively + " lively runs");
        System.out.println(wrong == 0 ? "each answer is as due" : wrong + " answers are wrong");
        if (wrong != 0) {
            System.exit(1);
        }
    }
}
