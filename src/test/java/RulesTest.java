import java.lang.reflect.Constructor;
import java.lang.reflect.Field;
import java.lang.reflect.Method;
import java.lang.reflect.Modifier;
import java.nio.file.Files;
import java.nio.file.Path;
import java.util.Arrays;
import java.util.Random;
import java.util.TreeSet;
import java.util.regex.Matcher;
import java.util.regex.Pattern;

/** The face of the class, words that it may not use, and wild calls, none of which may throw. */
public final class RulesTest {
    private static final String FACE = "act at bench best bill buy charge choice coal coin cut due end fault feed find "
            + "fog frost gate hands holder last look node of read right round sees sell share steps thing tries "
            + "water why work";
    private static int wrong = 0;

    private static void check(String what, boolean holds) {
        if (!holds) {
            wrong++;
            System.out.println(what);
        }
    }

    private static void face() {
        check("public and final", Modifier.isPublic(GasTown.class.getModifiers())
                && Modifier.isFinal(GasTown.class.getModifiers()));
        TreeSet<String> open = new TreeSet<>();
        int calls = 0;
        for (Method m : GasTown.class.getDeclaredMethods()) {
            if (!Modifier.isPrivate(m.getModifiers())) {
                open.add(m.getName());
                calls++;
                check(m + " is not public", Modifier.isPublic(m.getModifiers()) && !Modifier.isStatic(m.getModifiers()));
            }
        }
        check("the face is " + open, String.join(" ", open).equals(FACE) && calls == open.size());
        for (Field f : GasTown.class.getDeclaredFields()) {
            check(f + " is open", Modifier.isPrivate(f.getModifiers()) || f.getName().equals("NONE"));
            check(f + " is static, not final", !Modifier.isStatic(f.getModifiers()) || Modifier.isFinal(f.getModifiers()));
        }
        Constructor<?>[] made = GasTown.class.getDeclaredConstructors();
        check("one constructor", made.length == 1 && made[0].getParameterCount() == 0);
        Class<?>[] inside = GasTown.class.getDeclaredClasses();
        check("some twelve classes", inside.length <= 12);
        for (Class<?> c : inside) {
            check(c + " is not static", Modifier.isStatic(c.getModifiers()) && !Modifier.isPublic(c.getModifiers()));
            int fields = 0;
            for (Field f : c.getDeclaredFields()) {
                fields += Modifier.isStatic(f.getModifiers()) ? 0 : 1;
                check(f + " is static, not final", !Modifier.isStatic(f.getModifiers()) || Modifier.isFinal(f.getModifiers()));
            }
            check(c + " has " + fields + " fields", fields <= 20);
            for (Method m : c.getDeclaredMethods()) {
                check(m + " has too many parameters", m.getParameterCount() <= 7);
                check(m + " bears a public name", !Arrays.asList(FACE.split(" ")).contains(m.getName()));
            }
        }
    }

    private static void words() throws Exception {
        String source = Files.readString(Path.of("src/main/java/GasTown.java"));
        String bare = source.replaceAll("//[^\n]*", "").replaceAll("(?s)/\\*.*?\\*/", "").replaceAll("\"[^\"\n]*\"", "\"\"");
        Matcher m = Pattern.compile("\\b(throw|throws|try|catch|synchronized|assert|import|package|System|Thread|float|double"
                + "|protected|while\\s*\\(true\\)|toString|hashCode)\\b|->|::|\\bnew \\w+\\(\\)\\s*\\{").matcher(bare);
        while (m.find()) {
            check("the source says " + m.group(), false);
        }
        for (int i = 0; i < source.length(); i++) {
            char c = source.charAt(i);
            check("sign " + (int) c, c == 10 || c >= 32 && c < 127);
        }
    }

    /** Methods stay short (some sixty lines): from a head at four or eight blanks to its bracket. */
    private static void lengths() throws Exception {
        String[] lines = Files.readString(Path.of("src/main/java/GasTown.java")).split("\n");
        int methods = 0;
        for (int i = 0; i < lines.length; i++) {
            String head = lines[i];
            int blanks = head.length() - head.stripLeading().length();
            if ((blanks != 4 && blanks != 8) || !head.endsWith(") {") || head.strip().matches("(if|for|while|switch|\\}).*")) {
                continue;
            }
            int to = i;
            while (to < lines.length - 1 && !lines[to].equals(" ".repeat(blanks) + "}")) {
                to++;
            }
            check(head.strip() + " has " + (to - i + 1) + " lines", to - i < 60);
            methods++;
        }
        check("methods are found", methods > 100);
    }

    private static int wild(Random random) {
        switch (random.nextInt(8)) {
            case 0:
                return random.nextInt();
            case 1:
                return new int[] {Integer.MIN_VALUE, Integer.MAX_VALUE, -1, 16, 40, 600, 3999, 4000}[random.nextInt(8)];
            case 2:
                return random.nextInt(100);
            default:
                return random.nextInt(10);
        }
    }

    private static long run(int seed, int calls) throws Exception {
        Random random = new Random(seed);
        Method[] all = GasTown.class.getDeclaredMethods();
        Method[] open = Arrays.stream(all).filter(m -> Modifier.isPublic(m.getModifiers()))
                .sorted((a, b) -> a.getName().compareTo(b.getName())).toArray(Method[]::new);
        GasTown x = new GasTown();
        long sum = 0;
        for (int i = 0; i < calls; i++) {
            Method m = open[random.nextInt(open.length)];
            Object[] args = new Object[m.getParameterCount()];
            for (int k = 0; k < args.length; k++) {
                args[k] = m.getParameterTypes()[k] == boolean.class ? (Object) random.nextBoolean() : (Object) wild(random);
            }
            Object answer;
            try {
                answer = m.invoke(x, args);
            } catch (java.lang.reflect.InvocationTargetException e) {
                check(m + " " + Arrays.toString(args) + " threw " + e.getCause(), false);
                return 0;
            }
            sum = sum * 31 + answer.hashCode();
        }
        return sum;
    }

    public static void main(String[] args) throws Exception {
        face();
        words();
        lengths();
        for (int seed = 0; seed < 500 && wrong < 20; seed++) {
            check("the same calls give other answers", run(seed, 512) == run(seed, 512));
        }
        System.out.println(wrong == 0 ? "all rules hold" : wrong + " rules are broken");
        if (wrong != 0) {
            System.exit(1);
        }
    }
}
