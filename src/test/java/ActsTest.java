import java.util.ArrayList;
import java.util.HashMap;
import java.util.List;
import java.util.Map;
import java.util.Random;
import java.util.function.ToIntFunction;

/** Made-up texts, sound and broken, told to GasTown and to a second reader that goes down by recursion. */
public final class ActsTest {
    private static final String[] SUBJECTS = {"pressure", "candles", "price", "fine", "dividend"};
    private static int wrong = 0;

    private static final class Fault extends RuntimeException {
        final int what;
        final int place;

        Fault(int what, int place) {
            this.what = what;
            this.place = place;
        }
    }

    private static final class Line {
        int subject;
        ToIntFunction<Map<String, Integer>> own;
        ToIntFunction<Map<String, Integer>> when;
    }

    /** The second reader. */
    private static final class Reader {
        final String text;
        final List<String> words = new ArrayList<>();
        final List<Integer> places = new ArrayList<>();
        int i = 0;
        int open = 0;

        Reader(String text) {
            this.text = text;
            int p = 0;
            while (p < text.length()) {
                char c = text.charAt(p);
                int from = p++;
                if (c == ' ' || c == '\n') {
                    continue;
                }
                if (letter(c)) {
                    while (p < text.length() && letter(text.charAt(p))) {
                        p++;
                    }
                } else if (digit(c)) {
                    while (p < text.length() && digit(text.charAt(p))) {
                        p++;
                    }
                }
                words.add(text.substring(from, p));
                places.add(from);
            }
            words.add("");
            places.add(text.length());
        }

        static boolean letter(char c) {
            return c < 128 && Character.isLetter(c);
        }

        static boolean digit(char c) {
            return c >= '0' && c <= '9';
        }

        Fault fault(int what) {
            return new Fault(what, places.get(i));
        }

        boolean is(String word) {
            return words.get(i).equals(word);
        }

        List<Line> act() {
            List<Line> lines = new ArrayList<>();
            while (!is("")) {
                Line line = new Line();
                line.subject = List.of(SUBJECTS).indexOf(words.get(i));
                if (line.subject < 0) {
                    throw fault(1);
                }
                if (lines.size() == 24) {
                    throw fault(3);
                }
                i++;
                line.own = e();
                line.when = env -> 1;
                if (is("when")) {
                    i++;
                    line.when = b();
                }
                need(";");
                lines.add(line);
            }
            return lines;
        }

        void need(String word) {
            if (!is(word)) {
                throw fault(1);
            }
            i++;
        }

        ToIntFunction<Map<String, Integer>> b() {
            ToIntFunction<Map<String, Integer>> left = a();
            while (is("or")) {
                i++;
                ToIntFunction<Map<String, Integer>> l = left;
                ToIntFunction<Map<String, Integer>> r = a();
                left = env -> l.applyAsInt(env) != 0 || r.applyAsInt(env) != 0 ? 1 : 0;
            }
            return left;
        }

        ToIntFunction<Map<String, Integer>> a() {
            ToIntFunction<Map<String, Integer>> left = c();
            while (is("and")) {
                i++;
                ToIntFunction<Map<String, Integer>> l = left;
                ToIntFunction<Map<String, Integer>> r = c();
                left = env -> l.applyAsInt(env) != 0 && r.applyAsInt(env) != 0 ? 1 : 0;
            }
            return left;
        }

        ToIntFunction<Map<String, Integer>> c() {
            if (is("not") || is("(")) {
                if (open == 8) {
                    throw fault(3);
                }
                open++;
                boolean not = is("not");
                i++;
                ToIntFunction<Map<String, Integer>> inner = not ? c() : b();
                if (!not) {
                    need(")");
                }
                open--;
                return not ? env -> 1 - inner.applyAsInt(env) : inner;
            }
            ToIntFunction<Map<String, Integer>> left = e();
            String sign = words.get(i);
            if (!sign.equals("<") && !sign.equals("=") && !sign.equals(">")) {
                throw fault(1);
            }
            i++;
            ToIntFunction<Map<String, Integer>> right = e();
            return env -> {
                int order = Integer.compare(left.applyAsInt(env), right.applyAsInt(env));
                return (sign.equals("<") ? order < 0 : sign.equals("=") ? order == 0 : order > 0) ? 1 : 0;
            };
        }

        ToIntFunction<Map<String, Integer>> e() {
            ToIntFunction<Map<String, Integer>> left = t();
            while (is("+") || is("-")) {
                boolean plus = is("+");
                i++;
                ToIntFunction<Map<String, Integer>> l = left;
                ToIntFunction<Map<String, Integer>> r = t();
                left = env -> plus ? l.applyAsInt(env) + r.applyAsInt(env) : l.applyAsInt(env) - r.applyAsInt(env);
            }
            return left;
        }

        ToIntFunction<Map<String, Integer>> t() {
            ToIntFunction<Map<String, Integer>> left = u();
            while (is("*") || is("/")) {
                boolean times = is("*");
                i++;
                ToIntFunction<Map<String, Integer>> l = left;
                if (!times) {
                    if (!number()) {
                        throw fault(1);
                    }
                    if (Integer.parseInt(words.get(i)) == 0) {
                        throw fault(2);
                    }
                }
                ToIntFunction<Map<String, Integer>> r = u();
                left = env -> times ? l.applyAsInt(env) * r.applyAsInt(env) : l.applyAsInt(env) / r.applyAsInt(env);
            }
            return left;
        }

        boolean number() {
            String word = words.get(i);
            return !word.isEmpty() && word.length() < 6 && digit(word.charAt(0));
        }

        ToIntFunction<Map<String, Integer>> u() {
            String word = words.get(i);
            if (number()) {
                i++;
                int value = Integer.parseInt(word);
                return env -> value;
            }
            if (List.of("hour", "day", "fog", "price", "short").contains(word)) {
                i++;
                return env -> env.get(word);
            }
            throw fault(1);
        }
    }

    /** What is due, as the document says it, by the second reader's lines. */
    private static final class Town {
        final List<List<Line>> acts = new ArrayList<>();
        final int[] days = new int[4];
        final int[] fogs = new int[42];

        Town() {
            for (int i = 0; i < 4; i++) {
                acts.add(null);
            }
        }

        /** Number, act, quarrel. */
        int[] due(int s, int step, int lacks) {
            Map<String, Integer> env = new HashMap<>();
            env.put("hour", step / 4 % 24);
            env.put("day", step / 96);
            env.put("fog", fogs[step / 96]);
            env.put("short", lacks);
            env.put("price", s == 2 ? 0 : due(2, step, 0)[0]);
            int[] found = {0, -1, 0};
            for (int day = step / 96; day >= 0; day--) {
                for (int a = 3; a >= 0; a--) {
                    if (acts.get(a) == null || days[a] != day) {
                        continue;
                    }
                    boolean tells = false;
                    for (Line line : acts.get(a)) {
                        if (line.subject != s || line.when.applyAsInt(env) == 0) {
                            continue;
                        }
                        int value = line.own.applyAsInt(env);
                        if (!tells) {
                            tells = true;
                            found = new int[] {value, a, 0};
                        } else if (value != found[0]) {
                            found[2] = 1;
                        }
                    }
                    if (tells) {
                        return found;
                    }
                }
            }
            return found;
        }
    }

    private static Random random = new Random(7);

    private static int below(int n) {
        return random.nextInt(n);
    }

    private static String blank() {
        return below(9) == 0 ? "\n" : " ";
    }

    private static String part() {
        int n = below(9);
        if (n < 4) {
            return "" + below(n == 0 ? 100000 : 30);
        }
        return new String[] {"hour", "day", "fog", "price", "short"}[n - 4];
    }

    private static String expression() {
        StringBuilder sum = new StringBuilder(part());
        for (int i = below(3); i > 0; i--) {
            switch (below(4)) {
                case 0:
                    sum.append(blank()).append("+ ").append(part());
                    break;
                case 1:
                    sum.append("- ").append(part());
                    break;
                case 2:
                    sum.append("*").append(part());
                    break;
                default:
                    sum.append("/ ").append(below(40) == 0 ? 0 : 1 + below(20));
            }
        }
        return sum.toString();
    }

    private static String test(int depth) {
        int n = below(depth > 7 ? 4 : 8);
        if (n < 4) {
            return expression() + new String[] {"<", "=", ">"}[below(3)] + expression();
        }
        if (n == 4) {
            return "not " + test(depth + 1);
        }
        if (n == 5) {
            return "(" + test(depth + 1) + ")";
        }
        return test(depth + 1) + blank() + (n == 6 ? "and " : "or ") + test(depth + 1);
    }

    private static String text() {
        StringBuilder sum = new StringBuilder();
        for (int i = below(7); i > 0; i--) {
            sum.append(SUBJECTS[below(5)]).append(blank()).append(expression());
            if (below(3) > 0) {
                sum.append(blank()).append("when ").append(test(below(5)));
            }
            sum.append(";");
        }
        String whole = sum.toString();
        return whole.length() > 600 ? "" : whole;
    }

    private static String broken(String text) {
        String[] bits = {" ", "", "(", ")", "not ", " and ", ";", "/", "*", "+", "price", "when", "0", "7", "<", "x", "?",
            "((((", "not not not not ", "fine 1;", "\t", "" + (char) 233, "123456"};
        StringBuilder sum = new StringBuilder(text);
        for (int i = 1 + below(3); i > 0; i--) {
            int at = below(sum.length() + 1);
            switch (below(3)) {
                case 0:
                    sum.insert(at, bits[below(bits.length)]);
                    break;
                case 1:
                    sum.delete(at, Math.min(sum.length(), at + 1 + below(4)));
                    break;
                default:
                    sum.replace(at, Math.min(sum.length(), at + 1), bits[below(bits.length)]);
            }
        }
        return sum.length() > 600 ? "" : sum.toString();
    }

    private static void same(String what, int got, int due) {
        if (got != due) {
            wrong++;
            System.out.println(what + " answered " + got + ", due is " + due);
        }
    }

    private static int tell(GasTown x, int act, int day, String text) {
        byte[] bytes = new byte[620];
        for (int i = 0; i < text.length(); i++) {
            bytes[i] = (byte) text.charAt(i);
        }
        for (int i = 0; i < text.length(); i += 20) {
            int[] five = new int[5];
            for (int j = 0; j < 20; j++) {
                five[j / 4] = five[j / 4] << 8 | (bytes[i + j] & 255);
            }
            x.feed(five[0], five[1], five[2], five[3], five[4]);
        }
        x.end(text.length());
        return x.act(act, day);
    }

    private static int oneTown() {
        GasTown x = new GasTown();
        Town y = new Town();
        int faults = 0;
        for (int i = 0; i < 5; i++) {
            String text = below(3) == 0 ? broken(text()) : text();
            int act = below(4);
            int day = below(4);
            int got = tell(x, act, day, text);
            try {
                List<Line> lines = new Reader(text).act();
                same("act of " + text, got, lines.size());
                same("fault of " + text, x.fault(0), 0);
                y.acts.set(act, lines);
                y.days[act] = day;
            } catch (Fault f) {
                faults++;
                same("act of " + text, got, -1);
                same("fault of " + text, x.fault(0), f.what);
                same("place in " + text, x.fault(1), f.place);
            }
            int fogDay = below(4);
            int fog = below(4);
            x.fog(fogDay, fog);
            y.fogs[fogDay] = fog;
            for (int j = 0; j < 20; j++) {
                int s = below(5);
                int step = below(96 * 5);
                int lacks = below(4) == 0 ? random.nextInt() : below(20);
                int[] due = y.due(s, step, lacks);
                for (int what = 0; what < 3; what++) {
                    same("due " + s + " " + step + " " + lacks + " " + what, x.due(s, step, lacks, what), due[what]);
                }
            }
        }
        return faults;
    }

    public static void main(String[] args) {
        int faults = 0;
        for (int i = 0; i < 7000 && wrong < 20; i++) {
            faults += oneTown();
        }
        if (faults < 3000) {
            wrong++;
            System.out.println("too few broken texts: " + faults);
        }
        System.out.println(wrong == 0 ? "both readers agree" : wrong + " answers are wrong");
        if (wrong != 0) {
            System.exit(1);
        }
    }
}
