/** A company that lights a town with gas: works, a net of pipes, acts, meters and plans. */
public final class GasTown {
    public static final int NONE = -1;

    private static final int LAST_STEP = 3999;
    private static final int LAST_DAY = 41;
    private static final int STEPS_OF_DAY = 96;
    private static final int MOST_NODES = 16;
    private static final int MOST_THINGS = 40;
    private static final int FULL_PRESSURE = 20;

    private static final int HOUSE = 0;
    private static final int LAMP = 1;
    private static final int SLOT = 2;
    private static final int LEAK = 3;

    private static final int PRESSURE_SUBJECT = 0;
    private static final int CANDLES_SUBJECT = 1;
    private static final int PRICE_SUBJECT = 2;
    private static final int FINE_SUBJECT = 3;
    private static final int DIVIDEND_SUBJECT = 4;

    private static final int MOST_BYTES = 600;
    private static final int MOST_LINES = 24;
    private static final int MOST_OPEN = 8;

    private static final int FAULT_MISPLACED = 1;
    private static final int FAULT_BY_ZERO = 2;
    private static final int FAULT_TOO_MANY = 3;

    private static final int END = 0;
    private static final int WRONG = 1;
    private static final int NUMBER = 2;
    // the five subjects stand together, in their order told
    private static final int PRESSURE = 3;
    private static final int CANDLES = 4;
    private static final int PRICE = 5;
    private static final int FINE = 6;
    private static final int DIVIDEND = 7;
    private static final int HOUR = 8;
    private static final int DAY = 9;
    private static final int FOG = 10;
    private static final int SHORT = 11;
    private static final int WHEN = 12;
    private static final int OR = 13;
    private static final int AND = 14;
    private static final int NOT = 15;
    private static final int SEMICOLON = 16;
    private static final int PLUS = 17;
    private static final int MINUS = 18;
    private static final int TIMES = 19;
    private static final int BY = 20;
    private static final int OPEN = 21;
    private static final int CLOSE = 22;
    private static final int LESS = 23;
    private static final int EQUAL = 24;
    private static final int MORE = 25;

    private final Sky sky;
    private final Works works;
    private final Things things;
    private final Net net;
    private final Laws laws;
    private final Books books;
    private final Night night;
    private final Eyes eyes;
    private final Improvements improvements;
    private int now;
    private int darkSteps;
    private int unsettledSteps;
    private int fails;
    private long taken;
    private boolean lastWasDark;

    public GasTown() {
        sky = new Sky();
        works = new Works();
        things = new Things();
        net = new Net();
        laws = new Laws();
        books = new Books();
        night = new Night();
        eyes = new Eyes();
        improvements = new Improvements();
    }

    // ---- the works ----

    public boolean coal(int k, int gas, int coke, int tar) {
        if (!works.isCoal(k) || !within(gas, 10, 200) || !within(coke, 0, 80) || !within(tar, 0, 20)) {
            return false;
        }
        works.gas[k] = gas;
        works.coke[k] = coke;
        works.tar[k] = tar;
        return true;
    }

    public int buy(int k, int tons, int price) {
        if (!works.isCoal(k) || !within(tons, 1, 9999) || !within(price, 0, 999)
                || works.stock[k] + tons > 9999) {
            return NONE;
        }
        works.stock[k] += tons;
        books.spent += (long) tons * price;
        return works.stock[k];
    }

    public int bench() {
        return works.build();
    }

    public int charge(int b, int k, int tons) {
        return works.light(b, k, tons);
    }

    public boolean hands(int n) {
        if (!within(n, 0, 30)) {
            return false;
        }
        works.hands = n;
        return true;
    }

    public boolean holder(int capacity) {
        if (!within(capacity, 0, 99999)) {
            return false;
        }
        works.capacity = capacity;
        works.letOff();
        return true;
    }

    // ---- the sky ----

    public boolean round(int dusk, int dawn) {
        if (!within(dusk, 40, 80) || !within(dawn, 10, 40)) {
            return false;
        }
        sky.dusk = dusk;
        sky.dawn = dawn;
        return true;
    }

    public boolean fog(int day, int f) {
        if (!within(day, 0, LAST_DAY) || !within(f, 0, 3)) {
            return false;
        }
        sky.fogs[day] = f;
        return true;
    }

    // ---- the net ----

    public boolean gate(int pressure) {
        if (!within(pressure, 0, 99)) {
            return false;
        }
        net.gatePressure = pressure;
        return true;
    }

    public int node(int parent, int resistance, int height) {
        if (!net.has(parent) || !within(resistance, 1, 9) || !within(height, -9, 9)) {
            return NONE;
        }
        return net.lay(parent, resistance, height);
    }

    public boolean water(int node, boolean is) {
        if (!net.hasPipe(node) || net.water[node] == is) {
            return false;
        }
        net.water[node] = is;
        return true;
    }

    public int thing(int node, int kind, int w, int place) {
        if (!net.has(node) || !within(kind, HOUSE, LEAK) || !within(w, 0, 99)
                || !within(place, 0, kind == LAMP ? 15 : 0)) {
            return NONE;
        }
        return things.put(node, kind, w, place);
    }

    public boolean cut(int t, boolean is) {
        if (!things.has(t) || things.cut[t] == is) {
            return false;
        }
        things.cut[t] = is;
        return true;
    }

    public int coin(int t, int n) {
        if (!things.isA(t, SLOT) || !within(n, 1, 99)) {
            return NONE;
        }
        things.credit[t] += 50 * n;
        return things.credit[t];
    }

    public boolean frost(int t, boolean is) {
        if (!things.isA(t, HOUSE) || things.frozen[t] == is) {
            return false;
        }
        things.frozen[t] = is;
        return true;
    }

    // ---- the steps ----

    public int steps(int n) {
        if (!within(n, 1, STEPS_OF_DAY) || now + n > LAST_STEP) {
            return NONE;
        }
        for (int i = 0; i < n; i++) {
            goOneStep();
        }
        return now;
    }

    private void goOneStep() {
        works.bake();
        things.askAll(now, sky);
        if (!net.settle(things, net.resistance)) {
            unsettledSteps++;
        }
        int used = things.usedInAll();
        lastWasDark = used > works.level;
        if (lastWasDark) {
            darkSteps++;
            things.takeNothing();
            used = 0;
        }
        works.level -= used;
        taken += used;
        things.keep();
        net.keep(things, lastWasDark);
        countFails();
        now++;
    }

    private void countFails() {
        laws.judge(PRESSURE_SUBJECT, now, 0, sky);
        if (laws.which == NONE) {
            return;
        }
        for (int n = 1; n < net.nodes && n < MOST_NODES; n++) {
            if (net.lastPressure[n] < laws.number && things.anyWantsAt(n)) {
                fails++;
            }
        }
    }

    // ---- readings and bills ----

    public int read(int t) {
        if (!things.isA(t, HOUSE)) {
            return NONE;
        }
        return books.note(t, now, things.meter[t], things.frozen[t]);
    }

    public boolean right(int t, int j, int v) {
        int reading = books.readingOf(t, j);
        if (reading == NONE || !within(v, 0, 999999)) {
            return false;
        }
        return books.correct(reading, v, now);
    }

    public long bill(int t, int j, int known, int what) {
        int reading = books.readingOf(t, j);
        if (reading == NONE || !within(known, 0, now) || !within(what, 0, 4)) {
            return NONE;
        }
        if (books.step[reading] > known || (what > 2 && j < 1)) {
            return NONE;
        }
        books.know(known);
        switch (what) {
            case 0:
                return books.step[reading];
            case 1:
                return books.shown[reading];
            case 2:
                return books.frozen[reading] ? 1 : 0;
            case 3:
                return books.units[reading];
            default:
                return billOf(reading);
        }
    }

    /** Of a reading whose units stand as they are known. */
    private long billOf(int reading) {
        if (books.before[reading] == NONE) {
            return 0;
        }
        laws.judge(PRICE_SUBJECT, books.step[reading], 0, sky);
        return books.units[reading] * Math.min(9999, Math.max(0, laws.number));
    }

    public int sell(int hundredths, int price) {
        if (hundredths < 1 || !within(price, 0, 99) || hundredths > works.yardCoke) {
            return NONE;
        }
        works.yardCoke -= hundredths;
        books.sold += (long) hundredths * price;
        return works.yardCoke;
    }

    // ---- the acts ----

    public int feed(int a, int b, int c, int d, int e) {
        if (laws.size + 20 > MOST_BYTES) {
            return NONE;
        }
        laws.store(a);
        laws.store(b);
        laws.store(c);
        laws.store(d);
        laws.store(e);
        return laws.size;
    }

    public boolean end(int n) {
        if (!within(n, 0, laws.size)) {
            return false;
        }
        laws.size = n;
        return true;
    }

    public int act(int n, int day) {
        return laws.enact(n, day);
    }

    public int fault(int what) {
        switch (what) {
            case 0:
                return laws.fault;
            case 1:
                return laws.faultPlace;
            default:
                return NONE;
        }
    }

    public int due(int s, int step, int lacks, int what) {
        if (!within(s, PRESSURE_SUBJECT, DIVIDEND_SUBJECT) || !within(step, 0, LAST_STEP)) {
            return NONE;
        }
        laws.judge(s, step, lacks, sky);
        switch (what) {
            case 0:
                return laws.number;
            case 1:
                return laws.which;
            case 2:
                return laws.quarrel ? 1 : 0;
            default:
                return NONE;
        }
    }

    public int tries(int v) {
        if (!within(v, 0, 99)) {
            return NONE;
        }
        laws.judge(CANDLES_SUBJECT, now, 0, sky);
        if (v >= laws.number) {
            return 0;
        }
        laws.judge(FINE_SUBJECT, now, laws.number - v, sky);
        int fine = Math.min(99999, Math.max(0, laws.number));
        books.fines += fine;
        return fine;
    }

    public long share(int what) {
        switch (what) {
            case 0:
                return gain();
            case 1:
                return mayBePaid();
            case 2:
                return Math.max(0L, gain()) / 100;
            case 3:
                return Math.min(mayBePaid(), Math.max(0L, gain()) / 100);
            default:
                return NONE;
        }
    }

    private long gain() {
        books.know(now);
        long sum = books.sold - books.spent - books.fines;
        for (int reading = 0; reading < books.count && reading < Books.MOST_READINGS; reading++) {
            sum += billOf(reading);
        }
        return sum;
    }

    private long mayBePaid() {
        laws.judge(DIVIDEND_SUBJECT, now, 0, sky);
        return Math.max(0, laws.number);
    }

    // ---- what is seen ----

    public int at(int n, int what) {
        if (!net.has(n)) {
            return NONE;
        }
        switch (what) {
            case 0:
                return net.lastPressure[n];
            case 1:
                return net.lastFlow[n];
            case 2:
                return net.water[n] ? 1 : 0;
            case 3:
                return net.parent[n];
            default:
                return NONE;
        }
    }

    public int of(int t, int what) {
        if (!things.has(t)) {
            return NONE;
        }
        switch (what) {
            case 0:
                return things.wantOf(t, now, sky);
            case 1:
                return things.took[t];
            case 2:
                return things.meter[t];
            case 3:
                return things.credit[t];
            case 4:
                return things.tookInAll[t];
            default:
                return NONE;
        }
    }

    public int why(int n, int what) {
        if (now == 0 || !net.has(n) || !within(what, 0, 1)) {
            return NONE;
        }
        if (net.lastPressure[n] >= FULL_PRESSURE) {
            return what == 0 ? 0 : NONE;
        }
        if (lastWasDark) {
            return what == 0 ? 1 : NONE;
        }
        int wet = net.firstWetOnWay(n);
        if (wet != NONE) {
            return what == 0 ? 2 : wet;
        }
        return what == 0 ? 3 : net.greatestLossOnWay(n);
    }

    // ---- plans ----

    public int best(int k, int tons, int what) {
        if (!works.isCoal(k) || !within(tons, 1, 9) || !within(what, 0, 8)) {
            return NONE;
        }
        night.foresee(now, works, things, sky);
        if (!night.plan(works, k, tons)) {
            return NONE;
        }
        return what == 0 ? night.fewest : night.chosen[what - 1];
    }

    public int last() {
        return night.firstShort(now, works, things, sky);
    }

    public boolean sees(int n, int is) {
        if (!net.hasPipe(n) || !within(is, NONE, 1)) {
            return false;
        }
        eyes.told[n] = is;
        return true;
    }

    public int find(int what) {
        if (!within(what, 0, 1) && !net.hasPipe(what < 10 ? NONE : what - 10)) {
            return NONE;
        }
        if (!eyes.explain(net)) {
            return NONE;
        }
        switch (what) {
            case 0:
                return eyes.fewest();
            case 1:
                return eyes.howManySets();
            default:
                return eyes.sharePipe(what - 10);
        }
    }

    public int work(int node, int resistance, int coin) {
        if (!net.hasPipe(node) || !within(resistance, 1, 9) || !within(coin, 1, 999)) {
            return NONE;
        }
        return improvements.offer(node, resistance, coin);
    }

    public int choice(int coin, int step, int what) {
        if (!within(coin, 0, 9999) || !within(step, 0, LAST_STEP) || !within(what, 0, 2)) {
            return NONE;
        }
        things.askAll(step, sky);
        improvements.choose(coin, net, things);
        switch (what) {
            case 0:
                return improvements.bestSet;
            case 1:
                return improvements.bestBurning;
            default:
                return improvements.bestCoin;
        }
    }

    public long look(int what) {
        switch (what) {
            case 0:
                return now;
            case 1:
                return works.level;
            case 2:
                return works.made;
            case 3:
                return works.stoodOff;
            case 4:
                return taken;
            case 5:
                return darkSteps;
            case 6:
                return unsettledSteps;
            case 7:
                return fails;
            case 8:
                return works.yardCoke;
            case 9:
                return works.yardTar;
            case 10:
                return books.spent;
            case 11:
                return books.sold;
            case 12:
                return books.fines;
            case 13:
                return things.count;
            case 14:
                return net.nodes;
            case 15:
                return works.burning();
            default:
                return NONE;
        }
    }

    private static boolean within(int number, int least, int greatest) {
        return number >= least && number <= greatest;
    }

    /** Fogs by days, and the hours of lamps and houses. */
    private static final class Sky {
        final int[] fogs = new int[LAST_DAY + 1];
        int dusk = 64;
        int dawn = 28;

        static int dayOf(int step) {
            return step / STEPS_OF_DAY;
        }

        static int hourOf(int step) {
            return step / 4 - 24 * dayOf(step);
        }

        int fogIn(int step) {
            int day = dayOf(step);
            return day >= 0 && day < fogs.length ? fogs[day] : 0;
        }

        int houseWant(int step, int w) {
            return hourlyWant(hourOf(step), w) * (2 + fogIn(step)) / 2;
        }

        private static int hourlyWant(int hour, int w) {
            if (hour < 6) {
                return w / 4;
            }
            if (hour < 10) {
                return w;
            }
            return hour < 16 || hour == 23 ? w / 2 : w * 2;
        }

        boolean lampBurns(int step, int place) {
            int inDay = step - STEPS_OF_DAY * dayOf(step);
            return inDay >= dusk + place || inDay < dawn + place || fogIn(step) >= 2;
        }
    }

    /** Coals, benches with their charges, the holders and the yard. */
    private static final class Works {
        static final int BURN = 16;
        static final int HANDS_OF_CHARGE = 3;
        static final int MOST_BENCHES = 6;
        // what part of its gas (by 72) a charge has made up to the end of its i-th step
        private static final int[] PARTS = {0, 1, 3, 6, 10, 15, 21, 28, 36, 44, 51, 57, 62, 66, 69, 71, 72};

        final int[] gas = {100, 100, 100};
        final int[] coke = {60, 60, 60};
        final int[] tar = {5, 5, 5};
        final int[] stock = new int[3];
        final int[] stepsLeft = new int[MOST_BENCHES];
        final int[] gasInAll = new int[MOST_BENCHES];
        final int[] cokeInAll = new int[MOST_BENCHES];
        final int[] tarInAll = new int[MOST_BENCHES];
        int benches;
        int hands = 6;
        int chargesNow;
        int capacity;
        int level;
        long made;
        long stoodOff;
        int yardCoke;
        int yardTar;

        boolean isCoal(int k) {
            return k >= 0 && k < stock.length;
        }

        int build() {
            return benches < MOST_BENCHES ? benches++ : NONE;
        }

        int light(int b, int k, int tons) {
            if (b < 0 || b >= benches || b >= MOST_BENCHES || !isCoal(k) || !within(tons, 1, 9)) {
                return NONE;
            }
            if (stepsLeft[b] > 0 || stock[k] < tons || (chargesNow + 1) * HANDS_OF_CHARGE > hands) {
                return NONE;
            }
            stock[k] -= tons;
            chargesNow++;
            stepsLeft[b] = BURN;
            gasInAll[b] = tons * gas[k];
            cokeInAll[b] = tons * coke[k];
            tarInAll[b] = tons * tar[k];
            return gasInAll[b];
        }

        /** The gas that a charge of so much gas makes in the i-th of its steps. */
        static int gasOf(int inAll, int i) {
            return i < 1 || i > BURN ? 0 : inAll * PARTS[i] / 72 - inAll * PARTS[i - 1] / 72;
        }

        /** The gas that the charges of now make so many steps later. */
        int gasLater(int later) {
            int sum = 0;
            for (int b = 0; b < MOST_BENCHES; b++) {
                if (stepsLeft[b] > later) {
                    sum += gasOf(gasInAll[b], BURN + 1 - stepsLeft[b] + later);
                }
            }
            return sum;
        }

        void bake() {
            int gasNow = gasLater(0);
            made += gasNow;
            level += gasNow;
            letOff();
            for (int b = 0; b < MOST_BENCHES; b++) {
                if (stepsLeft[b] > 0) {
                    stepsLeft[b]--;
                    if (stepsLeft[b] == 0) {
                        yardCoke += cokeInAll[b];
                        yardTar += tarInAll[b];
                    }
                }
            }
            chargesNow = 0;
        }

        void letOff() {
            if (level > capacity) {
                stoodOff += level - capacity;
                level = capacity;
            }
        }

        int burning() {
            int sum = 0;
            for (int b = 0; b < MOST_BENCHES; b++) {
                if (stepsLeft[b] > 0) {
                    sum++;
                }
            }
            return sum;
        }

        /** Benches without a charge of now so many steps later. */
        int coldLater(int later) {
            int sum = 0;
            for (int b = 0; b < benches && b < MOST_BENCHES; b++) {
                if (stepsLeft[b] <= later) {
                    sum++;
                }
            }
            return sum;
        }
    }

    /** Houses, lamps, slots and leaks: what they want and take. */
    private static final class Things {
        final int[] node = new int[MOST_THINGS];
        final int[] kind = new int[MOST_THINGS];
        final int[] number = new int[MOST_THINGS];
        final int[] place = new int[MOST_THINGS];
        final boolean[] cut = new boolean[MOST_THINGS];
        final boolean[] frozen = new boolean[MOST_THINGS];
        final int[] credit = new int[MOST_THINGS];
        final int[] meter = new int[MOST_THINGS];
        final int[] took = new int[MOST_THINGS];
        final int[] tookInAll = new int[MOST_THINGS];
        // of the settling that goes on, be it a step's or a plan's
        final int[] wants = new int[MOST_THINGS];
        final int[] takes = new int[MOST_THINGS];
        int count;

        boolean has(int t) {
            return t >= 0 && t < count && t < MOST_THINGS;
        }

        boolean isA(int t, int aKind) {
            return has(t) && kind[t] == aKind;
        }

        int put(int aNode, int aKind, int w, int aPlace) {
            if (count >= MOST_THINGS) {
                return NONE;
            }
            node[count] = aNode;
            kind[count] = aKind;
            number[count] = w;
            place[count] = aPlace;
            return count++;
        }

        int wantOf(int t, int step, Sky sky) {
            if (!has(t) || cut[t]) {
                return 0;
            }
            switch (kind[t]) {
                case HOUSE:
                    return sky.houseWant(step, number[t]);
                case LAMP:
                    return sky.lampBurns(step, place[t]) ? number[t] : 0;
                case SLOT:
                    return Math.min(sky.houseWant(step, number[t]), credit[t]);
                default:
                    return number[t];
            }
        }

        int allWants(int step, Sky sky) {
            int sum = 0;
            for (int t = 0; t < count; t++) {
                sum += wantOf(t, step, sky);
            }
            return sum;
        }

        void askAll(int step, Sky sky) {
            for (int t = 0; t < MOST_THINGS; t++) {
                wants[t] = wantOf(t, step, sky);
            }
        }

        void takeWants() {
            for (int t = 0; t < MOST_THINGS; t++) {
                takes[t] = wants[t];
            }
        }

        void takeNothing() {
            for (int t = 0; t < MOST_THINGS; t++) {
                takes[t] = 0;
            }
        }

        void takeBy(int[] pressure) {
            for (int t = 0; t < count && t < MOST_THINGS; t++) {
                int n = node[t];
                int there = n >= 0 && n < pressure.length ? pressure[n] : 0;
                boolean inFull = kind[t] != LEAK && there >= FULL_PRESSURE;
                takes[t] = inFull ? wants[t] : wants[t] * there / FULL_PRESSURE;
            }
        }

        int usedInAll() {
            int sum = 0;
            for (int t = 0; t < MOST_THINGS; t++) {
                sum += takes[t];
            }
            return sum;
        }

        /** What all take is what they took in the step that ends. */
        void keep() {
            for (int t = 0; t < count && t < MOST_THINGS; t++) {
                took[t] = takes[t];
                tookInAll[t] += takes[t];
                if (kind[t] == HOUSE && !frozen[t]) {
                    meter[t] += takes[t];
                }
                if (kind[t] == SLOT) {
                    credit[t] -= takes[t];
                }
            }
        }

        boolean anyWantsAt(int aNode) {
            for (int t = 0; t < count && t < MOST_THINGS; t++) {
                if (node[t] == aNode && kind[t] != LEAK && wants[t] > 0) {
                    return true;
                }
            }
            return false;
        }

        /** How many burn fully at these pressures. */
        int burnFully(int[] pressure) {
            int sum = 0;
            for (int t = 0; t < count && t < MOST_THINGS; t++) {
                int n = node[t];
                int there = n >= 0 && n < pressure.length ? pressure[n] : 0;
                if (kind[t] != LEAK && wants[t] > 0 && there >= FULL_PRESSURE) {
                    sum++;
                }
            }
            return sum;
        }
    }

    /** Nodes with the pipes from their parents; a parent always has the lesser number. */
    private static final class Net {
        static final int MOST_SWEEPS = 12;

        final int[] parent = new int[MOST_NODES];
        final int[] resistance = new int[MOST_NODES];
        final int[] height = new int[MOST_NODES];
        final boolean[] water = new boolean[MOST_NODES];
        // of the settling that goes on, be it a step's or a plan's
        final int[] pressure = new int[MOST_NODES];
        final int[] flow = new int[MOST_NODES];
        // as they were in the last step; a node that came since has none
        final int[] lastPressure = new int[MOST_NODES];
        final int[] lastFlow = new int[MOST_NODES];
        final boolean[] lastWater = new boolean[MOST_NODES];
        // the nodes on one way, from the gate on
        final int[] way = new int[MOST_NODES];
        int nodes = 1;
        int gatePressure = 40;

        Net() {
            parent[0] = NONE;
        }

        boolean has(int n) {
            return n >= 0 && n < nodes && n < MOST_NODES;
        }

        boolean hasPipe(int n) {
            return n > 0 && has(n);
        }

        int lay(int aParent, int aResistance, int aHeight) {
            if (nodes >= MOST_NODES) {
                return NONE;
            }
            parent[nodes] = aParent;
            resistance[nodes] = aResistance;
            height[nodes] = aHeight;
            return nodes++;
        }

        /** Sweeps with these resistances; whether it settled. */
        boolean settle(Things things, int[] resist) {
            things.takeWants();
            boolean settled = false;
            for (int sweep = 0; sweep < MOST_SWEEPS && !settled; sweep++) {
                gatherFlow(things);
                boolean same = press(resist);
                settled = sweep > 0 && same;
                things.takeBy(pressure);
            }
            return settled;
        }

        private void gatherFlow(Things things) {
            for (int n = 0; n < MOST_NODES; n++) {
                flow[n] = 0;
            }
            for (int t = 0; t < things.count && t < MOST_THINGS; t++) {
                int n = things.node[t];
                if (has(n)) {
                    flow[n] += things.takes[t];
                }
            }
            for (int n = MOST_NODES - 1; n > 0; n--) {
                int p = parent[n];
                if (has(n) && has(p)) {
                    flow[p] += flow[n];
                }
            }
        }

        /** Whether all pressures are as they were. */
        private boolean press(int[] resist) {
            boolean same = pressure[0] == gatePressure;
            pressure[0] = gatePressure;
            for (int n = 1; n < nodes && n < MOST_NODES; n++) {
                int loss = n < resist.length ? resist[n] * flow[n] / 100 : 0;
                int there = pressureBehind(n, loss);
                same = same && pressure[n] == there;
                pressure[n] = there;
            }
            return same;
        }

        private int pressureBehind(int n, int loss) {
            if (!hasPipe(n) || water[n] || !has(parent[n])) {
                return 0;
            }
            int p = parent[n];
            if (pressure[p] == 0) {
                return 0;
            }
            return Math.max(0, pressure[p] - loss + height[n] - height[p]);
        }

        void keep(Things things, boolean dark) {
            gatherFlow(things);
            for (int n = 0; n < nodes && n < MOST_NODES; n++) {
                lastPressure[n] = dark ? 0 : pressure[n];
                lastFlow[n] = flow[n];
                lastWater[n] = water[n];
            }
        }

        /** Puts the nodes from the gate's neighbour to n into the row; how many. */
        private int walkTo(int n) {
            int length = 0;
            int m = n;
            for (int i = 0; i < MOST_NODES && hasPipe(m); i++) {
                length++;
                m = parent[m];
            }
            m = n;
            for (int i = length - 1; i >= 0 && hasPipe(m); i--) {
                way[i] = m;
                m = parent[m];
            }
            return length;
        }

        int firstWetOnWay(int n) {
            int length = walkTo(n);
            for (int i = 0; i < length && i < MOST_NODES; i++) {
                int m = way[i];
                if (has(m) && lastWater[m]) {
                    return m;
                }
            }
            return NONE;
        }

        int greatestLossOnWay(int n) {
            int length = walkTo(n);
            int greatest = NONE;
            int found = NONE;
            for (int i = 0; i < length && i < MOST_NODES; i++) {
                int m = way[i];
                int loss = has(m) ? resistance[m] * lastFlow[m] / 100 : 0;
                if (loss > greatest) {
                    greatest = loss;
                    found = m;
                }
            }
            return found;
        }
    }

    /** One act: each line's expression and its condition as programs for a small stack. */
    private static final class Act {
        final int[] subject = new int[MOST_LINES];
        final int[] from = new int[MOST_LINES];
        final int[] condition = new int[MOST_LINES];
        final int[] behind = new int[MOST_LINES];
        final int[] code = new int[MOST_BYTES];
        final int[] number = new int[MOST_BYTES];
        // nine levels of brackets leave fewer than forty numbers waiting
        final int[] stack = new int[64];
        int length;
        int lines;
        int day;
        boolean told;
        int answer;
        boolean quarrel;

        void clear() {
            length = 0;
            lines = 0;
        }

        void beginLine(int aSubject) {
            if (lines < MOST_LINES) {
                subject[lines] = aSubject;
                from[lines] = length;
            }
        }

        void beginCondition() {
            if (lines < MOST_LINES) {
                condition[lines] = length;
            }
        }

        void closeLine() {
            if (lines < MOST_LINES) {
                behind[lines] = length;
                lines++;
            }
        }

        void emit(int what, int value) {
            if (length < MOST_BYTES) {
                code[length] = what;
                number[length] = value;
                length++;
            }
        }

        /** Whether a line of the subject tells; the answer is the first one's. */
        boolean tells(int aSubject, int[] asked) {
            boolean found = false;
            quarrel = false;
            for (int i = 0; i < lines && i < MOST_LINES; i++) {
                boolean free = condition[i] == behind[i];
                if (subject[i] != aSubject || (!free && valueOf(condition[i], behind[i], asked) == 0)) {
                    continue;
                }
                int value = valueOf(from[i], condition[i], asked);
                if (!found) {
                    found = true;
                    answer = value;
                } else if (value != answer) {
                    quarrel = true;
                }
            }
            return found;
        }

        private int valueOf(int first, int end, int[] asked) {
            int high = 0;
            for (int i = Math.max(0, first); i < end && i < MOST_BYTES; i++) {
                int what = code[i];
                if (isLeaf(what)) {
                    if (high < stack.length) {
                        stack[high++] = leaf(what, number[i], asked);
                    }
                } else if (what == NOT) {
                    if (high > 0) {
                        stack[high - 1] = 1 - stack[high - 1];
                    }
                } else if (high > 1) {
                    high--;
                    stack[high - 1] = joined(what, stack[high - 1], stack[high]);
                }
            }
            return high > 0 ? stack[high - 1] : 0;
        }

        static boolean isLeaf(int what) {
            return what == NUMBER || what == PRICE || (what >= HOUR && what <= SHORT);
        }

        private static int leaf(int what, int value, int[] asked) {
            if (asked.length < Laws.ASKED) {
                return 0;
            }
            switch (what) {
                case HOUR:
                    return asked[0];
                case DAY:
                    return asked[1];
                case FOG:
                    return asked[2];
                case PRICE:
                    return asked[3];
                case SHORT:
                    return asked[4];
                default:
                    return value;
            }
        }

        private static int joined(int what, int a, int b) {
            switch (what) {
                case PLUS:
                    return a + b;
                case MINUS:
                    return a - b;
                case TIMES:
                    return a * b;
                case BY:
                    return b == 0 ? 0 : a / b;
                case LESS:
                    return a < b ? 1 : 0;
                case EQUAL:
                    return a == b ? 1 : 0;
                case MORE:
                    return a > b ? 1 : 0;
                case AND:
                    return a & b;
                default:
                    return a | b;
            }
        }
    }

    /** Reads a text into an act, token by token, up to the first fault. */
    private static final class Parser {
        // what stands next
        static final int LINE = 0;
        static final int PART = 1;
        static final int DIVISOR = 2;
        static final int TEST = 3;
        static final int BEHIND = 4;
        // what it would stand behind: a line's own expression, one of the two sides of a comparison, a )
        static final int OWN = 0;
        static final int LEFT = 1;
        static final int RIGHT = 2;
        static final int BRACKET = 3;
        static final int RANK_OF_ALL = 1;

        private int[] text = new int[0];
        private int size;
        private int spot;
        private int kind;
        private int value;
        private int start;
        // what the text is read into: an act that is not told
        private Act out = new Act();
        private int next;
        private int side;
        // signs that wait for what stands behind them, the brackets among them
        private final int[] waiting = new int[64];
        private int high;
        private int open;
        int fault;
        int place;

        /** Whether the text has no fault. */
        boolean reads(int[] aText, int aSize) {
            text = aText;
            size = Math.min(aSize, text.length);
            out.clear();
            spot = 0;
            fault = 0;
            place = NONE;
            next = LINE;
            advance();
            for (int i = 0; i < MOST_BYTES && fault == 0 && kind != END; i++) {
                take();
                advance();
            }
            if (next != LINE) {
                fail(FAULT_MISPLACED);
            }
            return fault == 0;
        }

        /** Gives what was read away for an act that is told no more. */
        Act swap(Act old) {
            Act read = out;
            out = old;
            return read;
        }

        private void fail(int what) {
            if (fault == 0) {
                fault = what;
                place = start;
            }
        }

        private void take() {
            switch (next) {
                case LINE:
                    takeSubject();
                    break;
                case PART:
                    takePart();
                    break;
                case DIVISOR:
                    takeDivisor();
                    break;
                case TEST:
                    takeTest();
                    break;
                default:
                    takeBehind();
            }
        }

        private void takeSubject() {
            if (kind < PRESSURE || kind > DIVIDEND) {
                fail(FAULT_MISPLACED);
            } else if (out.lines >= MOST_LINES) {
                fail(FAULT_TOO_MANY);
            } else {
                out.beginLine(kind - PRESSURE);
                high = 0;
                open = 0;
                side = OWN;
                next = PART;
            }
        }

        private void takePart() {
            if (!Act.isLeaf(kind)) {
                fail(FAULT_MISPLACED);
                return;
            }
            out.emit(kind, value);
            next = BEHIND;
        }

        private void takeDivisor() {
            if (kind != NUMBER) {
                fail(FAULT_MISPLACED);
            } else if (value == 0) {
                fail(FAULT_BY_ZERO);
            } else {
                takePart();
            }
        }

        private void takeTest() {
            if (kind != NOT && kind != OPEN) {
                side = LEFT;
                takePart();
            } else if (open >= MOST_OPEN) {
                fail(FAULT_TOO_MANY);
            } else {
                open++;
                putAside();
            }
        }

        private void takeBehind() {
            boolean comparedBehind = side == RIGHT || side == BRACKET;
            if (kind >= PLUS && kind <= BY && side != BRACKET) {
                operate(kind == BY ? DIVISOR : PART);
            } else if (kind >= LESS && kind <= MORE && side == LEFT) {
                operate(PART);
                side = RIGHT;
            } else if ((kind == AND || kind == OR) && comparedBehind) {
                operate(TEST);
            } else if (kind == CLOSE && comparedBehind) {
                closeBracket();
            } else if (kind == WHEN && side == OWN) {
                unwind(RANK_OF_ALL);
                out.beginCondition();
                next = TEST;
            } else if (kind == SEMICOLON && side != LEFT) {
                closeLine();
            } else {
                fail(FAULT_MISPLACED);
            }
        }

        /** The sign between two parts waits for the second one. */
        private void operate(int then) {
            unwind(rankOf(kind));
            putAside();
            next = then;
        }

        private void putAside() {
            if (high < waiting.length) {
                waiting[high++] = kind;
            }
        }

        /** What binds so much at least has both its parts now; a bracket stops it. */
        private void unwind(int rank) {
            for (int i = Math.min(high, waiting.length) - 1; i >= 0 && rankOf(waiting[i]) >= rank; i--) {
                out.emit(waiting[i], 0);
                if (waiting[i] == NOT) {
                    open--;
                }
                high = i;
            }
        }

        private void closeBracket() {
            unwind(RANK_OF_ALL);
            if (high == 0) {
                fail(FAULT_MISPLACED);
                return;
            }
            high--;
            open--;
            side = BRACKET;
        }

        private void closeLine() {
            unwind(RANK_OF_ALL);
            if (high > 0) {
                fail(FAULT_MISPLACED);
                return;
            }
            if (side == OWN) {
                out.beginCondition();
            }
            out.closeLine();
            next = LINE;
        }

        private static int rankOf(int sign) {
            switch (sign) {
                case OPEN:
                    return 0;
                case OR:
                    return RANK_OF_ALL;
                case AND:
                    return 2;
                case NOT:
                    return 3;
                case LESS:
                case EQUAL:
                case MORE:
                    return 4;
                case PLUS:
                case MINUS:
                    return 5;
                default:
                    return 6;
            }
        }

        private int signAt(int i) {
            return i >= 0 && i < size && i < text.length ? text[i] : NONE;
        }

        /** Goes on to the next token; at the end it starts at the text's length. */
        private void advance() {
            for (int i = 0; i < MOST_BYTES && isBlank(signAt(spot)); i++) {
                spot++;
            }
            start = spot;
            value = 0;
            int sign = signAt(spot);
            if (sign == NONE) {
                kind = END;
            } else if (isLetter(sign)) {
                readWord();
            } else if (isDigit(sign)) {
                readNumber();
            } else {
                spot++;
                kind = kindOfSign(sign);
            }
        }

        private void readWord() {
            for (int i = 0; i < MOST_BYTES && isLetter(signAt(spot)); i++) {
                spot++;
            }
            kind = kindOfWord();
        }

        private void readNumber() {
            for (int i = 0; i < MOST_BYTES && isDigit(signAt(spot)); i++) {
                if (i < 5) {
                    value = value * 10 + signAt(spot) - '0';
                }
                spot++;
            }
            kind = spot - start > 5 ? WRONG : NUMBER;
        }

        private static boolean isBlank(int sign) {
            return sign == 32 || sign == 10;
        }

        private static boolean isLetter(int sign) {
            return (sign >= 'a' && sign <= 'z') || (sign >= 'A' && sign <= 'Z');
        }

        private static boolean isDigit(int sign) {
            return sign >= '0' && sign <= '9';
        }

        private static int kindOfSign(int sign) {
            switch (sign) {
                case ';':
                    return SEMICOLON;
                case '+':
                    return PLUS;
                case '-':
                    return MINUS;
                case '*':
                    return TIMES;
                case '/':
                    return BY;
                case '(':
                    return OPEN;
                case ')':
                    return CLOSE;
                case '<':
                    return LESS;
                case '=':
                    return EQUAL;
                case '>':
                    return MORE;
                default:
                    return WRONG;
            }
        }

        private int kindOfWord() {
            if (isWord("pressure")) {
                return PRESSURE;
            }
            if (isWord("candles")) {
                return CANDLES;
            }
            if (isWord("price")) {
                return PRICE;
            }
            if (isWord("fine")) {
                return FINE;
            }
            if (isWord("dividend")) {
                return DIVIDEND;
            }
            if (isWord("hour")) {
                return HOUR;
            }
            if (isWord("day")) {
                return DAY;
            }
            if (isWord("fog")) {
                return FOG;
            }
            if (isWord("short")) {
                return SHORT;
            }
            if (isWord("when")) {
                return WHEN;
            }
            if (isWord("or")) {
                return OR;
            }
            if (isWord("and")) {
                return AND;
            }
            return isWord("not") ? NOT : WRONG;
        }

        /** Whether the letters of the token are these. */
        private boolean isWord(String word) {
            if (spot - start != word.length()) {
                return false;
            }
            for (int i = 0; i < word.length(); i++) {
                if (signAt(start + i) != word.charAt(i)) {
                    return false;
                }
            }
            return true;
        }
    }

    /** The tape, the acts, and what is due by them. */
    private static final class Laws {
        static final int ACTS = 4;
        static final int ASKED = 5;

        private final int[] tape = new int[MOST_BYTES];
        private final Act[] acts = new Act[ACTS];
        // hour, day, fog, price, short
        private final int[] asked = new int[ASKED];
        private final Parser parser = new Parser();
        int size;
        int fault;
        int faultPlace = NONE;
        int number;
        int which = NONE;
        boolean quarrel;

        Laws() {
            for (int a = 0; a < ACTS; a++) {
                acts[a] = new Act();
            }
        }

        void store(int four) {
            for (int shift = 24; shift >= 0; shift -= 8) {
                if (size < MOST_BYTES) {
                    tape[size++] = (four >>> shift) & 255;
                }
            }
        }

        int enact(int n, int day) {
            int length = size;
            size = 0;
            fault = 0;
            faultPlace = NONE;
            if (n < 0 || n >= ACTS || !within(day, 0, LAST_DAY)) {
                return NONE;
            }
            if (!parser.reads(tape, length)) {
                fault = parser.fault;
                faultPlace = parser.place;
                return NONE;
            }
            acts[n] = parser.swap(acts[n]);
            acts[n].told = true;
            acts[n].day = day;
            return acts[n].lines;
        }

        /** Finds the due of a subject: number, act and quarrel. */
        void judge(int subject, int step, int lacks, Sky sky) {
            asked[0] = Sky.hourOf(step);
            asked[1] = Sky.dayOf(step);
            asked[2] = sky.fogIn(step);
            asked[3] = 0;
            asked[4] = 0;
            if (subject != PRICE_SUBJECT) {
                weigh(PRICE_SUBJECT);
                asked[3] = number;
            }
            asked[4] = lacks;
            weigh(subject);
        }

        private void weigh(int subject) {
            number = 0;
            which = NONE;
            quarrel = false;
            int latest = NONE;
            for (int a = 0; a < ACTS; a++) {
                Act one = acts[a];
                if (one.told && one.day <= asked[1] && one.day >= latest && one.tells(subject, asked)) {
                    latest = one.day;
                    which = a;
                    number = one.answer;
                    quarrel = one.quarrel;
                }
            }
        }
    }

    /** Readings and what they were put to, and money. */
    private static final class Books {
        static final int MOST_READINGS = 200;
        static final int MOST_RIGHTS = 100;

        final int[] house = new int[MOST_READINGS];
        final int[] ordinal = new int[MOST_READINGS];
        final int[] before = new int[MOST_READINGS];
        final int[] step = new int[MOST_READINGS];
        final int[] number = new int[MOST_READINGS];
        final boolean[] frozen = new boolean[MOST_READINGS];
        // as known at the step of the latest know()
        final int[] shown = new int[MOST_READINGS];
        final long[] units = new long[MOST_READINGS];
        int count;
        private final int[] rightOf = new int[MOST_RIGHTS];
        private final int[] rightTo = new int[MOST_RIGHTS];
        private final int[] rightStep = new int[MOST_RIGHTS];
        private int rights;
        long spent;
        long sold;
        long fines;

        int note(int t, int now, int meter, boolean isFrozen) {
            if (count >= MOST_READINGS) {
                return NONE;
            }
            int earlier = NONE;
            for (int r = 0; r < count && r < MOST_READINGS; r++) {
                if (house[r] == t) {
                    earlier = r;
                }
            }
            house[count] = t;
            before[count] = earlier;
            ordinal[count] = earlier == NONE ? 0 : ordinal[earlier] + 1;
            step[count] = now;
            number[count] = meter;
            frozen[count] = isFrozen;
            return ordinal[count++];
        }

        /** The row of reading j of a thing. */
        int readingOf(int t, int j) {
            for (int r = 0; r < count && r < MOST_READINGS; r++) {
                if (house[r] == t && ordinal[r] == j) {
                    return r;
                }
            }
            return NONE;
        }

        boolean correct(int reading, int v, int now) {
            if (rights >= MOST_RIGHTS) {
                return false;
            }
            rightOf[rights] = reading;
            rightTo[rights] = v;
            rightStep[rights] = now;
            rights++;
            return true;
        }

        /** Fills numbers and units of all readings as they are known at a step. */
        void know(int known) {
            for (int r = 0; r < count && r < MOST_READINGS; r++) {
                shown[r] = number[r];
            }
            for (int i = 0; i < rights && i < MOST_RIGHTS; i++) {
                int r = rightOf[i];
                if (rightStep[i] <= known && r >= 0 && r < count) {
                    shown[r] = rightTo[i];
                }
            }
            for (int r = 0; r < count && r < MOST_READINGS; r++) {
                units[r] = unitsOf(r);
            }
        }

        /** By the units of the readings ahead, which must stand already. */
        private long unitsOf(int r) {
            int p = before[r];
            if (p < 0 || p >= count) {
                return 0;
            }
            if (!frozen[r]) {
                return Math.max(0, shown[r] - shown[p]);
            }
            int q = before[p];
            if (q < 0 || q >= count) {
                return 0;
            }
            int earlierSteps = step[p] - step[q];
            return earlierSteps <= 0 ? 0 : units[p] * (step[r] - step[p]) / earlierSteps;
        }
    }

    /** What comes in the next hours, and the fewest charges for them. */
    private static final class Night {
        static final int STEPS = 32;
        static final int FAR = 192;
        static final int PLACES = 8;
        static final int STEPS_OF_PLACE = 4;
        static final int PLACES_OF_BURN = 4;
        static final int TOO_MANY = 1000;

        private final int[] wants = new int[STEPS];
        private final int[] gas = new int[STEPS];
        // what one charge of the plan makes in its i-th step
        private final int[] gasOfOne = new int[Works.BURN + 1];
        private final int[] most = new int[PLACES];
        private final int[] cold = new int[PLACES];
        private final int[] tried = new int[PLACES];
        final int[] chosen = new int[PLACES];
        private int mostInAll;
        private int capacity;
        int fewest;

        int firstShort(int now, Works works, Things things, Sky sky) {
            int level = works.level;
            for (int i = 0; i < FAR; i++) {
                level = Math.min(works.capacity, level + works.gasLater(i)) - things.allWants(now + i, sky);
                if (level < 0) {
                    return now + i;
                }
            }
            return NONE;
        }

        void foresee(int now, Works works, Things things, Sky sky) {
            for (int i = 0; i < STEPS; i++) {
                wants[i] = things.allWants(now + i, sky);
                gas[i] = works.gasLater(i);
            }
        }

        /** Whether there is a good plan. */
        boolean plan(Works works, int k, int tons) {
            if (!works.isCoal(k) || tons < 1) {
                return false;
            }
            for (int i = 0; i <= Works.BURN; i++) {
                gasOfOne[i] = Works.gasOf(tons * works.gas[k], i);
            }
            int byHands = works.hands / Works.HANDS_OF_CHARGE;
            for (int p = 0; p < PLACES; p++) {
                most[p] = p == 0 ? byHands - works.chargesNow : byHands;
                cold[p] = works.coldLater(p * STEPS_OF_PLACE);
            }
            mostInAll = works.stock[k] / tons;
            capacity = works.capacity;
            fewest = TOO_MANY;
            seek(this, 0, 0, works.level);
            return fewest < TOO_MANY;
        }

        /** Tries the lesser numbers first, so the first plan of so many charges is the one to keep. */
        private static void seek(Night night, int p, int used, int level) {
            if (used >= night.fewest) {
                return;
            }
            if (p < 0 || p >= PLACES) {
                night.keepTried(used);
                return;
            }
            int atMost = night.mostAt(p, used);
            for (int n = 0; n <= atMost; n++) {
                night.tried[p] = n;
                int rest = night.levelBehind(p, level);
                if (rest >= 0) {
                    seek(night, p + 1, used + n, rest);
                }
            }
        }

        private void keepTried(int used) {
            fewest = used;
            for (int i = 0; i < PLACES; i++) {
                chosen[i] = tried[i];
            }
        }

        /** How many charges can come at a place, so many having come ahead of it; none always can. */
        private int mostAt(int p, int used) {
            int free = Math.min(most[p], cold[p] - stillBurning(p));
            return Math.max(0, Math.min(mostInAll - used, free));
        }

        /** The plan's own charges that hold a bench at a place. */
        private int stillBurning(int p) {
            int sum = 0;
            for (int i = Math.max(0, p - PLACES_OF_BURN + 1); i < p && i < PLACES; i++) {
                sum += tried[i];
            }
            return sum;
        }

        /** The level behind the steps of a place; NONE if one of them is short. */
        private int levelBehind(int p, int level) {
            int first = p * STEPS_OF_PLACE;
            for (int i = first; i < first + STEPS_OF_PLACE && i < STEPS; i++) {
                level = Math.min(capacity, level + gas[i] + gasOfPlan(p, i)) - wants[i];
                if (level < 0) {
                    return NONE;
                }
            }
            return level;
        }

        private int gasOfPlan(int p, int i) {
            int sum = 0;
            for (int from = Math.max(0, p - PLACES_OF_BURN + 1); from <= p && from < PLACES; from++) {
                int age = i - from * STEPS_OF_PLACE + 1;
                if (age >= 0 && age < gasOfOne.length) {
                    sum += tried[from] * gasOfOne[age];
                }
            }
            return sum;
        }
    }

    /** Which pipes must be full of water: the fewest, found from the ends of the net to the gate. */
    private static final class Eyes {
        static final int NEVER = 1000;

        final int[] told = new int[MOST_NODES];
        // of a node and all behind it: does anyone lack gas, does anyone have it
        private final boolean[] lacks = new boolean[MOST_NODES];
        private final boolean[] burns = new boolean[MOST_NODES];
        // the fewest pipes behind a node, and in how many ways, its own pipe left out
        private final int[] costBehind = new int[MOST_NODES];
        private final int[] waysBehind = new int[MOST_NODES];
        // the same with its own pipe
        private final int[] cost = new int[MOST_NODES];
        private final int[] ways = new int[MOST_NODES];
        // in how many of the sets no pipe on the way to a node's own is taken, all else being chosen
        private final int[] reached = new int[MOST_NODES];

        Eyes() {
            for (int n = 0; n < MOST_NODES; n++) {
                told[n] = NONE;
            }
        }

        /** Whether any set explains what is told. */
        boolean explain(Net net) {
            for (int n = 0; n < MOST_NODES; n++) {
                lacks[n] = told[n] == 0;
                burns[n] = told[n] == 1;
                costBehind[n] = 0;
                waysBehind[n] = 1;
            }
            for (int n = MOST_NODES - 1; n > 0; n--) {
                int p = net.parent[n];
                if (!net.hasPipe(n) || !net.has(p)) {
                    continue;
                }
                weigh(n);
                lacks[p] = lacks[p] || lacks[n];
                burns[p] = burns[p] || burns[n];
                costBehind[p] = Math.min(NEVER, costBehind[p] + cost[n]);
                waysBehind[p] *= ways[n];
            }
            if (costBehind[0] >= NEVER) {
                return false;
            }
            reach(net);
            return true;
        }

        private void weigh(int n) {
            int own = lacks[n] && !burns[n] ? 1 : NEVER;
            int behind = told[n] == 0 ? NEVER : costBehind[n];
            cost[n] = Math.min(own, behind);
            ways[n] = 0;
            if (cost[n] < NEVER) {
                ways[n] = (own == cost[n] ? 1 : 0) + (behind == cost[n] ? waysBehind[n] : 0);
            }
        }

        private void reach(Net net) {
            reached[0] = 1;
            for (int n = 1; n < MOST_NODES; n++) {
                reached[n] = 0;
                int p = net.parent[n];
                if (!net.hasPipe(n) || !net.has(p) || ways[n] == 0) {
                    continue;
                }
                boolean passed = p == 0 || (told[p] != 0 && costBehind[p] == cost[p]);
                reached[n] = passed ? reached[p] * (waysBehind[p] / ways[n]) : 0;
            }
        }

        int fewest() {
            return costBehind[0];
        }

        int howManySets() {
            return waysBehind[0];
        }

        /** 2: the pipe is in all sets, 1: in some, 0: in none. */
        int sharePipe(int n) {
            if (n < 1 || n >= MOST_NODES || !lacks[n] || burns[n] || cost[n] != 1 || reached[n] == 0) {
                return 0;
            }
            return reached[n] == waysBehind[0] ? 2 : 1;
        }
    }

    /** Works on pipes that could be paid for. */
    private static final class Improvements {
        static final int MOST_WORKS = 8;

        private final int[] node = new int[MOST_WORKS];
        private final int[] resistance = new int[MOST_WORKS];
        private final int[] coin = new int[MOST_WORKS];
        private final int[] resist = new int[MOST_NODES];
        private int count;
        int bestSet;
        int bestBurning;
        int bestCoin;

        int offer(int aNode, int aResistance, int aCoin) {
            if (count >= MOST_WORKS) {
                return NONE;
            }
            node[count] = aNode;
            resistance[count] = aResistance;
            coin[count] = aCoin;
            return count++;
        }

        /** The things must have been asked what they want. */
        void choose(int purse, Net net, Things things) {
            bestBurning = NONE;
            for (int set = 0; set < 1 << count; set++) {
                int price = priceOf(set);
                if (price > purse) {
                    continue;
                }
                putIn(set, net);
                net.settle(things, resist);
                int burning = things.burnFully(net.pressure);
                if (burning > bestBurning || (burning == bestBurning && price < bestCoin)) {
                    bestSet = set;
                    bestBurning = burning;
                    bestCoin = price;
                }
            }
        }

        private int priceOf(int set) {
            int sum = 0;
            for (int i = 0; i < count && i < MOST_WORKS; i++) {
                if ((set >> i & 1) == 1) {
                    sum += coin[i];
                }
            }
            return sum;
        }

        private void putIn(int set, Net net) {
            for (int n = 0; n < MOST_NODES; n++) {
                resist[n] = net.resistance[n];
            }
            for (int i = 0; i < count && i < MOST_WORKS; i++) {
                int n = node[i];
                if ((set >> i & 1) == 1 && n > 0 && n < MOST_NODES) {
                    resist[n] = resistance[i];
                }
            }
        }
    }
}
