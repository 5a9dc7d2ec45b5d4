/** The edges of the tape, of acts and of what is due by them, sentence by sentence: promises 22 to 26. */
public final class ActsEdgesTest extends Check {
    private static final String OPEN7 = "price 1 when (((((((";

    public static void main(String[] args) {
        feed();
        bytes();
        endOfTape();
        tapeIsEmptyThen();
        act();
        asItWas();
        faultOfTheLatest();
        tokens();
        numbers();
        blanks();
        grammar();
        misplaced();
        atTheEnd();
        byZero();
        lines();
        open();
        firstByPlace();
        wholeTape();
        againAndAgain();
        ints();
        order();
        conditions();
        due();
        inForce();
        whichAct();
        quarrel();
        asked();
        end();
    }

    private static void fails(String text, int fault, int place) {
        GasTown x = new GasTown();
        none("act of " + text, tell(x, 0, 0, text));
        same("fault of " + text, x.fault(0), fault);
        same("place in " + text, x.fault(1), place);
    }

    private static void stands(String text, int lines) {
        GasTown x = new GasTown();
        same("act of " + text, tell(x, 0, 0, text), lines);
        same("fault of " + text, x.fault(0), 0);
        none("place in " + text, x.fault(1));
    }

    /** What an expression is at STEP 0 with short 5. */
    private static void is(String expression, int due) {
        GasTown x = new GasTown();
        same("act of " + expression, tell(x, 0, 0, "fine " + expression + ";"), 1);
        same(expression, x.due(3, 0, 5, 0), due);
    }

    private static void feed() {
        says(22, "Twenty bytes come behind the TAPE: how many it has");
        GasTown x = new GasTown();
        for (int i = 1; i <= 30; i++) {
            same("feed " + i, feedBlanks(x), 20 * i);
        }
        says(22, "NONE, and nothing comes, if there would be more than 600");
        none("the 31st", x.feed(0, 0, 0, 0, 0));
        none("the 31st", feedBlanks(x));
        no("601 bytes", x.end(601));
        yes("600 bytes", x.end(600));
        yes("581 bytes", x.end(581));
        none("601", x.feed(0, 0, 0, 0, 0));
        no("582", x.end(582));
        yes("581 bytes still", x.end(581));
        yes("580 bytes", x.end(580));
        same("600", feedBlanks(x), 600);
        same("nothing came of what was refused", x.act(0, 0), 0);
        same("from 0 on", feedBlanks(x), 20);
    }

    private static int feedBlanks(GasTown x) {
        return x.feed(0x20202020, 0x20202020, 0x20202020, 0x20202020, 0x20202020);
    }

    private static void bytes() {
        says(22, "of each number the highest first");
        GasTown x = new GasTown();
        // "fine", " 123", "45 +", " 6 *", " 7 ;"
        x.feed(0x66696e65, 0x20313233, 0x3435202b, 0x2036202a, 0x2037203b);
        same("a line", x.act(0, 0), 1);
        same("its number", x.due(3, 0, 0, 0), 12345 + 42);
        for (int place = 0; place < 20; place++) {
            int[] five = {0x20202020, 0x20202020, 0x20202020, 0x20202020, 0x20202020};
            five[place / 4] ^= (0x20 ^ 0xe9) << (24 - 8 * (place % 4));
            x.feed(five[0], five[1], five[2], five[3], five[4]);
            none("a sign of 233 at " + place, x.act(0, 0));
            same("where it stands", x.fault(1), place);
        }
        x.feed(-1, -1, -1, -1, -1);
        none("signs of 255", x.act(0, 0));
        same("the first", x.fault(1), 0);
        x.feed(0x20202020, 0x20202020, 0, 0, 0);
        none("signs of 0", x.act(0, 0));
        same("the first", x.fault(1), 8);
    }

    private static void endOfTape() {
        says(23, "true; false, changing nothing, if it has not so many, or n is below 0");
        GasTown x = new GasTown();
        yes("0 of 0", x.end(0));
        no("1 of 0", x.end(1));
        no("-1 of 0", x.end(-1));
        tape(x, "fine 1; fine 2;");
        no("16 of 15", x.end(16));
        no("the greatest int", x.end(Integer.MAX_VALUE));
        no("-1", x.end(-1));
        no("the least int", x.end(Integer.MIN_VALUE));
        yes("15 of 15", x.end(15));
        same("nothing was changed", x.act(0, 0), 2);
        says(23, "The TAPE has its first n bytes alone");
        tape(x, "fine 1; fine 2;");
        yes("7 of 15", x.end(7));
        no("8 of 7", x.end(8));
        same("27", x.feed(0x66696e65, 0x20333b20, 0x20202020, 0x20202020, 0x20202020), 27);
        same("fine 1; and fine 3;", x.act(0, 0), 2);
        same("what stood behind is gone", x.due(3, 0, 0, 2), 1);
        tape(x, "fine 1;");
        yes("6 of 7", x.end(6));
        none("without its ;", x.act(0, 0));
        same("place", x.fault(1), 6);
        tape(x, "fine 1;");
        yes("0 of 7", x.end(0));
        same("an empty text", x.act(0, 0), 0);
    }

    private static void tapeIsEmptyThen() {
        says(24, "The TAPE, empty then (by each answer)");
        GasTown x = new GasTown();
        tape(x, "fine 1;");
        same("told", x.act(0, 0), 1);
        no("empty", x.end(1));
        tape(x, "fine;");
        none("a fault", x.act(0, 0));
        no("empty", x.end(1));
        tape(x, "fine 1;");
        none("no such act", x.act(4, 0));
        no("empty", x.end(1));
        tape(x, "fine 1;");
        none("no such act", x.act(-1, 0));
        no("empty", x.end(1));
        tape(x, "fine 1;");
        none("no such day", x.act(0, 42));
        no("empty", x.end(1));
        tape(x, "fine 1;");
        none("no such day", x.act(0, -1));
        no("empty", x.end(1));
        same("20", feedBlanks(x), 20);
    }

    private static void act() {
        says(24, "NONE: no such ACT or DAY");
        GasTown x = new GasTown();
        int[] acts = {-1, 4, Integer.MIN_VALUE, Integer.MAX_VALUE};
        int[] days = {-1, 42, Integer.MIN_VALUE, Integer.MAX_VALUE};
        for (int i = 0; i < 4; i++) {
            none("act " + acts[i], tell(x, acts[i], 0, "fine 1;"));
            none("day " + days[i], tell(x, 0, days[i], "fine 1;"));
        }
        none("nothing is told", x.due(3, 0, 0, 1));
        none("nothing is told", x.due(3, 3999, 0, 1));
        says(24, "is ACT n, in force from a DAY: how many lines");
        for (int n = 0; n <= 3; n++) {
            same("act " + n, tell(x, n, 0, "fine " + n + "; price 1; fine 9;"), 3);
            same("it is the greatest", x.due(3, 0, 0, 1), n);
            same("its number", x.due(3, 0, 0, 0), n);
        }
        same("day 41", tell(x, 0, 41, "fine 7;"), 1);
        same("on day 41", x.due(3, 41 * 96, 0, 1), 0);
        same("on day 40", x.due(3, 41 * 96 - 1, 0, 1), 3);
        says(24, "told again it is another text of another DAY");
        same("act 3", tell(x, 3, 2, "fine 8;"), 1);
        same("on day 1", x.due(3, 191, 0, 1), 2);
        same("on day 2", x.due(3, 192, 0, 0), 8);
        same("no price of it", x.due(2, 192, 0, 1), 2);
        same("no lines", tell(x, 3, 0, ""), 0);
        same("on day 2", x.due(3, 192, 0, 1), 2);
    }

    private static void asItWas() {
        says(24, "or a FAULT (it stays as it was)");
        GasTown x = new GasTown();
        tell(x, 1, 1, "fine 5; price 6; price 7;");
        String[] broken = {"fine 9; price 8", "fine 9; price 1/0;", "fine", "fine 9; fine 8; fine 7; x"};
        for (String text : broken) {
            none(text, tell(x, 1, 0, text));
            none("not in force on day 0", x.due(3, 0, 0, 1));
            same("fine", x.due(3, 96, 0, 0), 5);
            same("price", x.due(2, 96, 0, 0), 6);
            same("quarrel", x.due(2, 96, 0, 2), 1);
        }
        none("no such day", tell(x, 1, 42, "fine 9;"));
        same("fine", x.due(3, 96, 0, 0), 5);
        none("an act that was not told", tell(x, 0, 0, "fine 3; fine"));
        none("is none", x.due(3, 0, 0, 1));
    }

    private static void faultOfTheLatest() {
        says(25, "Of the latest act(): what 0 the FAULT (0 without one), 1 its place (NONE)");
        GasTown x = new GasTown();
        same("ahead of the first", x.fault(0), 0);
        none("ahead of the first", x.fault(1));
        tell(x, 0, 0, "fine 1 1;");
        same("a fault", x.fault(0), 1);
        same("its place", x.fault(1), 7);
        feedBlanks(x);
        x.end(3);
        x.due(3, 0, 0, 0);
        same("still", x.fault(0), 1);
        same("still", x.fault(1), 7);
        x.end(0);
        tell(x, 0, 0, "fine 1/0;");
        same("another", x.fault(0), 2);
        same("its place", x.fault(1), 7);
        says(24, "no such ACT or DAY (no FAULT is told: 0 then)");
        none("no such act", tell(x, 4, 0, "fine"));
        same("no fault", x.fault(0), 0);
        none("no place", x.fault(1));
        tell(x, 0, 0, "fine 1/0;");
        none("no such day", tell(x, 0, 42, "fine"));
        same("no fault", x.fault(0), 0);
        none("no place", x.fault(1));
        tell(x, 0, 0, "fine 1/0;");
        same("sound", tell(x, 0, 0, "fine 1;"), 1);
        same("no fault", x.fault(0), 0);
        none("no place", x.fault(1));
        tell(x, 0, 0, "fine 1/0;");
        same("empty", tell(x, 0, 0, ""), 0);
        same("no fault", x.fault(0), 0);
        none("no place", x.fault(1));
        says(25, "NONE for another what");
        none("2", x.fault(2));
        none("-1", x.fault(-1));
        tell(x, 0, 0, "fine 1/0;");
        none("2", x.fault(2));
        none("-1", x.fault(-1));
        none("the least int", x.fault(Integer.MIN_VALUE));
        none("the greatest int", x.fault(Integer.MAX_VALUE));
    }

    private static void tokens() {
        says(0, "letters as many as stand together are KEYWORDS (those told here) or none");
        String[] subjects = {"pressure", "candles", "price", "fine", "dividend"};
        for (String subject : subjects) {
            stands(subject + " 1;", 1);
            stands(subject + "1;", 1);
            fails(subject + "s 1;", 1, 0);
            fails(subject.substring(1) + " 1;", 1, 0);
            fails(subject.substring(0, subject.length() - 1) + " 1;", 1, 0);
            fails("x" + subject + " 1;", 1, 0);
            fails(subject.substring(0, 1).toUpperCase() + subject.substring(1) + " 1;", 1, 0);
            fails(subject + "Z1;", 1, 0);
        }
        String[] asked = {"hour", "day", "fog", "price", "short"};
        for (String word : asked) {
            stands("fine " + word + ";", 1);
            stands("fine 1+" + word + "*2;", 1);
            fails("fine " + word + "s;", 1, 5);
            fails("fine " + word.substring(1) + ";", 1, 5);
            fails("fine " + word.toUpperCase() + ";", 1, 5);
        }
        stands("fine 1when 1<2and 2<3or not 3<4;", 1);
        fails("fine 1 when 1<2 andnot 2<3;", 1, 16);
        fails("fine 1 wHen 1<2;", 1, 7);
        fails("fine 1 if 1<2;", 1, 7);
        fails("fine hourday;", 1, 5);
        fails("fine hour day;", 1, 10);
        says(0, "signs beside the letters");
        char[] signs = {'@', '[', '`', '{'};
        for (char sign : signs) {
            fails("fine 1;" + sign, 1, 7);
            fails("fine" + sign + " 1;", 1, 4);
        }
        char[] letters = {'A', 'Z', 'a', 'z'};
        for (char letter : letters) {
            fails("fine" + letter + " 1;", 1, 0);
            fails("fine 1" + letter + ";", 1, 6);
        }
        char[] beside = {'/', ':'};
        for (char sign : beside) {
            fails("fine 1;" + sign, 1, 7);
        }
        fails("fine 1" + ':' + ";", 1, 6);
        fails("fine 1.5;", 1, 6);
        fails("fine 1, 2;", 1, 6);
        fails("fine 1 when 1<=2;", 1, 14);
        fails("fine 1 when 1<>2;", 1, 14);
        fails("fine 1 when 1==2;", 1, 14);
        fails("fine 1 when 1!2;", 1, 13);
    }

    private static void numbers() {
        says(0, "digits as many as stand together NUMBERS of 1 to 5 digits or none");
        is("0", 0);
        is("9", 9);
        is("99999", 99999);
        is("00000", 0);
        is("00009", 9);
        is("90000", 90000);
        is("12345", 12345);
        is("67890", 67890);
        fails("fine 100000;", 1, 5);
        fails("fine 000009;", 1, 5);
        fails("fine 000000;", 1, 5);
        fails("fine 1 + 123456789012345;", 1, 9);
        fails("fine 1 2;", 1, 7);
        fails("fine 1 23456;", 1, 7);
        fails("fine 12345 6;", 1, 11);
    }

    private static void blanks() {
        says(0, "Blanks (32, 10) between");
        stands("\n fine\n\n1\n;\n", 1);
        stands("fine 1 ;fine 2\n;", 2);
        stands("fine 1+2*3-hour/4 when 1<2 and(not 2=3)or 4>5;", 1);
        stands("  fine  1  +  2  when  (  1  <  2  )  ;  ", 1);
        int[] others = {0, 1, 9, 11, 12, 13, 31, 33, 127, 128, 160, 255};
        for (int sign : others) {
            fails("fine" + (char) sign + "1;", 1, 4);
            fails("fine 1" + (char) sign + ";", 1, 6);
            fails("fine 1;" + (char) sign, 1, 7);
            fails((char) sign + "fine 1;", 1, 0);
        }
        fails("fi ne 1;", 1, 0);
        fails("fine 1 wh en 1<2;", 1, 7);
    }

    private static void grammar() {
        says(0, "ACT = {SUBJECT E [when B] ;}");
        stands("", 0);
        stands(" ", 0);
        stands("\n", 0);
        stands("pressure 1; candles 2; price 3; fine 4; dividend 5;", 5);
        stands("fine 1; fine 1 when 1<2; fine 1;", 3);
        says(0, "B = A {or A}.  A = C {and C}.  C = E (< | = | >) E | not C | ( B )");
        stands("fine 1 when 1<2 or 1=2 or 1>2;", 1);
        stands("fine 1 when 1<2 and 1=2 and 1>2;", 1);
        stands("fine 1 when 1+2*3/4-5 < hour*day/2-fog+price-short;", 1);
        stands("fine 1 when not not 1<2 and (not 1<2 or (1<2));", 1);
        says(0, "E = T {(+ | -) T}.  T = U {* U | / NUMBER}");
        stands("fine 1+2-3+4;", 1);
        stands("fine 1*2/3*4/5;", 1);
        stands("fine hour/1*day/99999;", 1);
    }

    private static void misplaced() {
        says(0, "1 what can't stand there");
        String[] words = {"when", "or", "and", "not", "hour", "day", "fog", "short", "1", ";", "+", "-", "*", "/", "(", ")",
            "<", "=", ">", "x", "?"};
        for (String word : words) {
            fails(word + " 1;", 1, 0);
            fails("fine 1;" + word, 1, 7);
        }
        String[] noPart = {"when", "or", "and", "not", "pressure", "candles", "fine", "dividend", ";", "+", "-", "*", "/",
            "(", ")", "<", "=", ">", "x", "?"};
        for (String word : noPart) {
            fails("fine " + word + " 1;", 1, 5);
            fails("fine 1 + " + word + " 1;", 1, 9);
            fails("fine 1 - " + word + " 1;", 1, 9);
            fails("fine 1 * " + word + " 1;", 1, 9);
            fails("fine 1 / " + word + " 1;", 1, 9);
            fails("fine 1 when 1 < " + word + " 1;", 1, 16);
            if (!word.equals("not") && !word.equals("(")) {
                fails("fine 1 when " + word + " 1;", 1, 12);
                fails("fine 1 when not " + word + " 1;", 1, 16);
                fails("fine 1 when (" + word + " 1;", 1, 13);
                fails("fine 1 when 1<2 and " + word + " 1;", 1, 20);
                fails("fine 1 when 1<2 or " + word + " 1;", 1, 19);
            }
        }
        String[] noDivisor = {"hour", "day", "fog", "price", "short"};
        for (String word : noDivisor) {
            fails("fine 1/" + word + ";", 1, 7);
        }
        String[] behindOwn = {"or", "and", "not", "(", ")", "<", "=", ">", "1", "hour", "price", "fine", "x"};
        for (String word : behindOwn) {
            fails("fine 1 " + word + " 2;", 1, 7);
        }
        String[] behindLeft = {"or", "and", "not", "(", ")", ";", "1", "hour", "fine", "when"};
        for (String word : behindLeft) {
            fails("fine 1 when 1 " + word + " 2;", 1, 14);
            fails("fine 1 when (1 " + word + " 2;", 1, 15);
        }
        String[] behindRight = {"not", "(", ")", "<", "=", ">", "1", "hour", "fine", "when"};
        for (String word : behindRight) {
            fails("fine 1 when 1<2 " + word + " 3;", 1, 16);
        }
        String[] behindBracket = {"not", "(", ")", "<", "=", ">", "+", "-", "*", "/", "1", "hour", "fine", "when"};
        for (String word : behindBracket) {
            fails("fine 1 when (1<2) " + word + " 3;", 1, 18);
        }
        fails("fine 1 when (1<2;", 1, 16);
        fails("fine 1 when ((1<2);", 1, 18);
        fails("fine 1 when not (1<2;", 1, 20);
        fails("fine 1 when (1+2)<3;", 1, 16);
        fails("fine (1);", 1, 5);
        fails("fine -1;", 1, 5);
        fails("fine 1 when 1<2 when 1<2;", 1, 16);
    }

    private static void atTheEnd() {
        says(0, "(the end: the text's length)");
        String[] texts = {"fine", "fine 1", "fine 1+", "fine 1*", "fine 1/", "fine 1 when", "fine 1 when 1", "fine 1 when 1<",
            "fine 1 when 1<2", "fine 1 when not", "fine 1 when (", "fine 1 when (1<2", "fine 1 when (1<2)", "fine 1 when 1<2 or",
            "fine 1 when 1<2 and", "fine 1; fine"};
        for (String text : texts) {
            fails(text, 1, text.length());
            fails(text + " ", 1, text.length() + 1);
            fails(text + " \n\n", 1, text.length() + 3);
        }
    }

    private static void byZero() {
        says(0, "2 (at the NUMBER) a part by 0");
        fails("fine 1/0;", 2, 7);
        fails("fine 1 / 0;", 2, 9);
        fails("fine 1/00000;", 2, 7);
        fails("fine 1*2/0;", 2, 9);
        fails("fine 1/2/0;", 2, 9);
        fails("fine 0/0;", 2, 7);
        fails("fine 1 when 1/0<2;", 2, 14);
        fails("fine 1 when 1<2/0;", 2, 16);
        stands("fine 0/1;", 1);
        stands("fine 1*0;", 1);
        stands("fine 1/10;", 1);
        stands("fine 1/00001;", 1);
        says(0, "a NUMBER of six digits can't stand there, though it is 0");
        fails("fine 1/000000;", 1, 7);
        fails("fine 1/0x;", 2, 7);
    }

    private static String times(String text, int n) {
        StringBuilder sum = new StringBuilder();
        for (int i = 0; i < n; i++) {
            sum.append(text);
        }
        return sum.toString();
    }

    private static void lines() {
        says(0, "3 (at its KEYWORD) the 25th SUBJECT's line");
        String line = "fine 1;\n";
        stands(times(line, 23), 23);
        stands(times(line, 24), 24);
        fails(times(line, 25), 3, 192);
        fails(times(line, 24) + "  price", 3, 194);
        fails(times(line, 24) + "dividend 1/0;", 3, 192);
        fails(times(line, 24) + "hour", 1, 192);
        fails(times(line, 24) + "fines", 1, 192);
        fails(times(line, 24) + ";", 1, 192);
        fails(times(line, 23) + "fine 1/0;" + line, 2, 184 + 7);
        fails(times(line, 23) + "fine 1 " + line, 1, 184 + 7);
        stands(times("price 1 when 1<2;", 24), 24);
        says(0, "the 25th line, whatever its SUBJECT");
        fails(times("price 1;fine 2;", 12) + "candles 3;", 3, 180);
        GasTown x = new GasTown();
        tell(x, 0, 0, times("price 2;", 23) + "fine 3;");
        same("the 24th tells", x.due(3, 0, 0, 0), 3);
    }

    private static void open() {
        says(0, "(at it) the 9th ( or not that is open");
        stands(OPEN7 + "1<2)))))));", 1);
        stands(OPEN7 + "(1<2))))))));", 1);
        stands(OPEN7 + "not 1<2)))))));", 1);
        fails(OPEN7 + "((1<2)))))))));", 3, 21);
        fails(OPEN7 + "(not 1<2))))))));", 3, 21);
        fails(OPEN7 + "not not 1<2)))))));", 3, 24);
        fails(OPEN7 + "not (1<2))))))));", 3, 24);
        stands("price 1 when not not not not not not not not 1<2;", 1);
        fails("price 1 when not not not not not not not not not 1<2;", 3, 45);
        fails("price 1 when not not not not not not not not (1<2);", 3, 45);
        stands("price 1 when not(not(not(not(1<2))));", 1);
        fails("price 1 when not(not(not(not(not 1<2))));", 3, 29);
        fails("price 1 when not(not(not(not((1<2)))));", 3, 29);
        says(0, "that is open: a not is so up to the end of what it denies");
        stands(OPEN7 + "not 1<2 and not 1<2 or not 1<2 and (1<2))))))));", 1);
        stands(OPEN7 + "(1<2) and (1<2) or not 1<2)))))));", 1);
        stands(OPEN7 + "not 1<2) and (not 1<2)))))));", 1);
        fails(OPEN7 + "(not 1<2)", 3, 21);
        fails(OPEN7 + "(1<2) and (1<2 and (1<2", 3, 39);
        fails(OPEN7 + "not 1<2 and (not 1<2", 3, 33);
        stands("price 1 when not not not not not not not not 1<2 and not not not not not not not not 1<2;", 1);
        fails("price 1 when not not not not not not not not 1<2 and not not not not not not not not not 1<2;", 3, 85);
        stands("price 1 when not not not not (not not not 1<2) and (not not not not not not not 1<2);", 1);
        says(0, "a line begins with none open");
        stands("price 1 when ((((((((1<2))))))));price 1 when ((((((((1<2))))))));", 2);
        stands("price 1 when not not not not not not not not 1<2;price 1 when ((((((((1<2))))))));", 2);
    }

    private static void firstByPlace() {
        says(0, "FAULTS, the first by its place, at one place the least");
        fails("fine 1/0 2", 2, 7);
        fails("fine 1 2/0;", 1, 7);
        fails("fine 1/0; price", 2, 7);
        fails("x fine 1/0;", 1, 0);
        fails(OPEN7 + "(1<2/0 and ((((", 2, 25);
        fails(OPEN7 + "((1/0", 3, 21);
        fails(OPEN7 + "(1(", 1, 22);
        fails(OPEN7 + "(1<(2", 1, 23);
        fails(OPEN7 + "(1<2 not", 1, 25);
        fails(OPEN7 + "(1<2) (", 1, 26);
        fails(times("fine 1;\n", 24) + "price (", 3, 192);
        fails(times("fine 1;\n", 24) + "(", 1, 192);
    }

    private static void wholeTape() {
        says(0, "a text of 600 bytes");
        String line = "fine 10000 + 20000 - 300;";
        same("its line's length", line.length(), 25);
        GasTown x = new GasTown();
        same("24 lines of 25 bytes", tell(x, 0, 0, times(line, 24)), 24);
        same("due", x.due(3, 0, 0, 0), 29700);
        StringBuilder sum = new StringBuilder("fine 1");
        while (sum.length() < 599) {
            sum.append(sum.length() == 598 ? " " : "+1");
        }
        GasTown y = new GasTown();
        same("a sum", tell(y, 0, 0, sum + ";"), 1);
        same("due", y.due(3, 0, 0, 0), 1 + (sum.length() - 6) / 2);
        GasTown z = new GasTown();
        none("without its ;", tell(z, 0, 0, sum + " "));
        same("the end", z.fault(1), 600);
        String test = "fine 1 when 1<2" + times("and 1<2", 82);
        GasTown w = new GasTown();
        same("84 tests", tell(w, 0, 0, test + "and 1<2;"), 1);
        same("due", w.due(3, 0, 0, 0), 1);
        GasTown v = new GasTown();
        same("the last is not so", tell(v, 0, 0, test + "and 2<1;"), 1);
        none("due", v.due(3, 0, 0, 1));
    }

    private static void againAndAgain() {
        says(24, "each text by itself, however many were told ahead of it");
        GasTown x = new GasTown();
        for (int i = 0; i < 12; i++) {
            same("24 lines", tell(x, 0, 0, times("price 10 + 20 - 30 * 4/5;", 23) + "fine " + (i + 30) + " * 2 / 2;"), 24);
            same("price", x.due(2, 0, 0, 0), 6);
            same("fine", x.due(3, 0, 0, 0), i + 30);
        }
        says(25, "a FAULT leaves nothing to the next text");
        GasTown y = new GasTown();
        String[] broken = {OPEN7 + "(", OPEN7 + "not 1<2", "fine 1 when not not not not not", "fine 1 +", "fine 1 when (1<2 and",
            times("fine 1;", 20) + "x", "fine 12345", "fine 1 / 0;"};
        for (String text : broken) {
            none(text, tell(y, 0, 0, text));
            same("eight open", tell(y, 0, 0, OPEN7 + "(1<2))))))));"), 1);
            none(text, tell(y, 0, 0, text));
            same("24 lines", tell(y, 0, 0, times("fine 1;", 24)), 24);
            none(text, tell(y, 0, 0, text));
            same("one line", tell(y, 0, 0, "fine 2 + 3 when not 2<1;"), 1);
            same("its number", y.due(3, 0, 0, 0), 5);
        }
    }

    private static void ints() {
        says(0, "Ints, which wrap");
        is("99999 * 99999", 99999 * 99999);
        is("99999 * 99999 * 99999", 99999 * 99999 * 99999);
        is("99999 * 21475", 99999 * 21475);
        is("32768 * 65535 + 32767", 2147483647);
        is("32768 * 65535 + 32767 + 1", -2147483648);
        is("0 - 32768 * 65536 - 1", 2147483647);
        is("0 - 32768 * 65536", -2147483648);
        is("32768 * 65536", -2147483648);
        is("65536 * 65536", 0);
        GasTown x = new GasTown();
        tell(x, 0, 0, "fine short + 1; candles short - 1; dividend short * 2; pressure 0 - short; price short;");
        same("greatest and 1", x.due(3, 0, Integer.MAX_VALUE, 0), Integer.MIN_VALUE);
        same("least less 1", x.due(1, 0, Integer.MIN_VALUE, 0), Integer.MAX_VALUE);
        same("greatest times 2", x.due(4, 0, Integer.MAX_VALUE, 0), -2);
        same("0 less the least", x.due(0, 0, Integer.MIN_VALUE, 0), Integer.MIN_VALUE);
        same("the least", x.due(2, 0, Integer.MIN_VALUE, 0), Integer.MIN_VALUE);
        same("the greatest", x.due(2, 0, Integer.MAX_VALUE, 0), Integer.MAX_VALUE);
        says(0, "/ goes towards 0");
        is("7 / 2", 3);
        is("7 / 1", 7);
        is("99999 / 99999", 1);
        is("99998 / 99999", 0);
        is("0 - 7 / 2", -3);
        tell(x, 0, 0, "fine short / 2; candles short / 99999;");
        int[] shorts = {7, 1, 0, -1, -2, -3, -7, Integer.MAX_VALUE, Integer.MIN_VALUE};
        for (int s : shorts) {
            same(s + " by 2", x.due(3, 0, s, 0), s / 2);
            same(s + " by 99999", x.due(1, 0, s, 0), s / 99999);
        }
    }

    private static void order() {
        says(0, "E = T {(+ | -) T}.  T = U {* U | / NUMBER}");
        is("10 - 4 - 3", 3);
        is("10 - 4 + 3", 9);
        is("2 + 3 * 4", 14);
        is("2 * 3 + 4", 10);
        is("20 - 2 * 3 * 2 - 1", 7);
        is("100 / 7 / 2", 7);
        is("100 / 7 * 7", 98);
        is("7 * 100 / 7", 100);
        is("1 + 100 / 8 - 2", 11);
        is("short * 3 - short", 10);
        is("hour + day + fog + price", 0);
    }

    private static void conditions() {
        says(0, "a line tells, if its B is so or it has none");
        String[] so = {"1<2", "2=2", "2>1", "not 2<1", "1<2 or 2<1", "2<1 or 1<2", "1<2 and 1<2", "1<2 or 1<2 and 2<1",
            "2<1 and 2<1 or 1<2", "not 2<1 and 1<2", "not (1<2 and 2<1)", "not 1<2 or 1<2", "not not 1<2", "(1<2 or 1<2) and 1<2",
            "0-1 < 0", "1+1=2", "2=2 and 1<2", "2>1 and 2=2", "1<2 and 2>1", "not 1=2", "not 1>2", "2>1 or 2=1", "short=5", "short*2>9", "hour=0 and day=0 and fog=0 and price=0",
            "32768*65536 < 0", "0 - 32768*65536 < 32767", "2<1 or 2<1 or 1<2"};
        String[] notSo = {"5 < 1 + 2", "2 > 9 - 4", "9 = 4 + 1", "7 < 2 * 3", "not 2=2", "not 2>1", "1=2 and 2=2", "1=2 or 1>2", "2<1", "2<2", "1=2", "1>2", "2>2", "not 1<2", "1<2 and 2<1", "2<1 and 1<2", "2<1 or 2<1",
            "(1<2 or 1<2) and 2<1", "not 1<2 and 1<2", "not (1<2 or 2<1)", "not not 2<1", "not not not 1<2", "short=4",
            "2<1 and 1<2 or 2<1", "not 1<2 or 2<1", "1<2 and 1<2 and 2<1"};
        for (String test : so) {
            GasTown x = new GasTown();
            tell(x, 0, 0, "fine 7 when " + test + ";");
            same(test, x.due(3, 0, 5, 0), 7);
            same(test, x.due(3, 0, 5, 1), 0);
        }
        for (String test : notSo) {
            GasTown x = new GasTown();
            tell(x, 0, 0, "fine 7 when " + test + ";");
            same(test, x.due(3, 0, 5, 0), 0);
            none(test, x.due(3, 0, 5, 1));
        }
    }

    private static void due() {
        says(26, "NONE if one can't be, or another what");
        GasTown x = new GasTown();
        tell(x, 0, 0, "pressure 1; candles 2; price 3; fine 4; dividend 5;");
        for (int what = 0; what <= 2; what++) {
            none("subject -1", x.due(-1, 0, 0, what));
            none("subject 5", x.due(5, 0, 0, what));
            none("step -1", x.due(0, -1, 0, what));
            none("step 4000", x.due(0, 4000, 0, what));
            none("the least int", x.due(Integer.MIN_VALUE, 0, 0, what));
            none("the greatest int", x.due(0, Integer.MAX_VALUE, 0, what));
        }
        none("what 3", x.due(0, 0, 0, 3));
        none("what -1", x.due(0, 0, 0, -1));
        none("the greatest int", x.due(0, 0, 0, Integer.MAX_VALUE));
        says(26, "THE DUE of SUBJECT s (0 .. 4, in their order told) in a STEP 0 .. 3999");
        for (int s = 0; s <= 4; s++) {
            same("subject " + s, x.due(s, 0, 0, 0), s + 1);
            same("subject " + s, x.due(s, 3999, 0, 0), s + 1);
            same("act", x.due(s, 0, 0, 1), 0);
            same("quarrel", x.due(s, 0, 0, 2), 0);
        }
        says(26, "what 0 the number (0 without), 1 the ACT (NONE without), 2 1 for a QUARREL, else 0");
        GasTown y = new GasTown();
        tell(y, 0, 0, "fine 4 when 1>2;");
        for (int s = 0; s <= 4; s++) {
            same("number", y.due(s, 0, 0, 0), 0);
            none("act", y.due(s, 0, 0, 1));
            same("quarrel", y.due(s, 0, 0, 2), 0);
        }
        says(26, "with a number short");
        tell(y, 0, 0, "fine short; price 7 when short < 0;");
        int[] shorts = {0, 1, -1, 100000, Integer.MAX_VALUE, Integer.MIN_VALUE};
        for (int s : shorts) {
            same("short " + s, y.due(3, 0, s, 0), s);
            same("when short " + s, y.due(2, 0, s, 0), s < 0 ? 7 : 0);
        }
    }

    private static void inForce() {
        says(0, "ACTS 0 .. 3 are TEXTS, each in force from a DAY 0 .. 41 on (one that was not told is none)");
        GasTown x = new GasTown();
        int[] days = {0, 1, 20, 41};
        for (int n = 0; n <= 3; n++) {
            tell(x, n, days[n], "fine " + (n + 5) + ";");
        }
        int[] steps = {0, 95, 96, 191, 192, 20 * 96 - 1, 20 * 96, 41 * 96 - 1, 41 * 96, 3999};
        int[] acts = {0, 0, 1, 1, 1, 1, 2, 2, 3, 3};
        for (int i = 0; i < steps.length; i++) {
            same("at " + steps[i], x.due(3, steps[i], 0, 1), acts[i]);
            same("at " + steps[i], x.due(3, steps[i], 0, 0), acts[i] + 5);
        }
        GasTown y = new GasTown();
        tell(y, 2, 5, "fine 1;");
        none("ahead of it", y.due(3, 5 * 96 - 1, 0, 1));
        same("ahead of it", y.due(3, 5 * 96 - 1, 0, 0), 0);
        same("from then on", y.due(3, 5 * 96, 0, 1), 2);
    }

    private static void whichAct() {
        says(0, "that of the latest DAY, of several the one of the greater number");
        GasTown x = new GasTown();
        tell(x, 0, 3, "fine 10;");
        tell(x, 1, 2, "fine 11;");
        tell(x, 2, 3, "fine 12; price 1;");
        tell(x, 3, 1, "fine 13; price 2; candles 3;");
        same("on day 0", x.due(3, 0, 0, 1), -1);
        same("on day 1", x.due(3, 96, 0, 1), 3);
        same("on day 2", x.due(3, 192, 0, 1), 1);
        same("on day 3 two are of day 3", x.due(3, 288, 0, 1), 2);
        says(0, "Of ACTS that are in force on the DAY and have a line of the SUBJECT that tells");
        same("price on day 2", x.due(2, 192, 0, 1), 3);
        same("price on day 3", x.due(2, 288, 0, 1), 2);
        same("candles on day 3", x.due(1, 288, 0, 1), 3);
        none("dividend", x.due(4, 288, 0, 1));
        tell(x, 2, 3, "fine 12 when hour = 1; fine 14 when hour = 2;");
        same("at 0", x.due(3, 288, 0, 1), 0);
        same("at 1", x.due(3, 292, 0, 0), 12);
        same("at 2", x.due(3, 296, 0, 0), 14);
        same("at 3", x.due(3, 300, 0, 0), 10);
        tell(x, 0, 3, "fine 10 when hour = 3;");
        same("at 4", x.due(3, 304, 0, 0), 11);
        says(0, "its first such line's E");
        tell(x, 0, 4, "price 0; fine 1 when 2<1; candles 4; fine 2 when 1<2; fine 3;");
        same("the second line of fine", x.due(3, 4 * 96, 0, 0), 2);
    }

    private static void quarrel() {
        says(0, "QUARREL: another such line of it tells another number");
        String[] acts = {"fine 1; fine 2;", "fine 1; fine 1;", "fine 1; fine 1; fine 2;", "fine 2 when 1<2; fine 3;",
            "fine 1; fine 2 when 2<1;", "fine 1 when 2<1; fine 2;", "fine 1; price 2;", "fine 0; fine 1;", "fine 1;",
            "fine 2*3; fine 6;", "fine hour; fine day;", "fine short; fine 5;", "fine short; fine 0;"};
        int[] due = {1, 0, 1, 1, 0, 0, 0, 1, 0, 0, 0, 0, 1};
        for (int i = 0; i < acts.length; i++) {
            GasTown x = new GasTown();
            tell(x, 0, 0, acts[i]);
            same(acts[i], x.due(3, 0, 5, 2), due[i]);
        }
        says(0, "another such line of it: not of another SUBJECT that was asked ahead of it");
        GasTown y = new GasTown();
        tell(y, 0, 0, "fine 1; fine 2; price 3; price 3; pressure 4; pressure 5 when short = 1;");
        for (int i = 0; i < 2; i++) {
            same("fine", y.due(3, 0, 0, 2), 1);
            same("price", y.due(2, 0, 0, 2), 0);
            same("fine", y.due(3, 0, 0, 2), 1);
            same("dividend", y.due(4, 0, 0, 2), 0);
            same("pressure with 1", y.due(0, 0, 1, 2), 1);
            same("pressure with 0", y.due(0, 0, 0, 2), 0);
        }
        GasTown z = new GasTown();
        tell(z, 0, 0, "fine 1; fine 2;");
        for (int subject = 0; subject <= 4; subject++) {
            same("fine", z.due(3, 0, 0, 2), 1);
            same("subject " + subject, z.due(subject, 0, 0, 2), subject == 3 ? 1 : 0);
        }
        says(0, "another such line of it: not of another ACT");
        GasTown x = new GasTown();
        tell(x, 0, 0, "fine 1; fine 2;");
        tell(x, 1, 0, "fine 3;");
        tell(x, 2, 1, "price 3; price 4;");
        same("fine", x.due(3, 96, 0, 0), 3);
        same("fine", x.due(3, 96, 0, 2), 0);
        same("price", x.due(2, 96, 0, 2), 1);
        tell(x, 1, 0, "fine 3 when hour > 0; fine 4 when hour > 1;");
        same("at 0 of act 0", x.due(3, 96, 0, 2), 1);
        same("at 1 of act 1", x.due(3, 100, 0, 2), 0);
        same("at 2 of act 1", x.due(3, 104, 0, 2), 1);
    }

    private static void asked() {
        says(0, "asked are hour and day of the STEP, its DAY's fog, short, price");
        GasTown x = new GasTown();
        x.fog(1, 2);
        x.fog(41, 3);
        tell(x, 0, 0, "fine hour; candles day; pressure fog; dividend short;");
        int[] steps = {0, 3, 4, 95, 96, 99, 100, 191, 192, 3935, 3936, 3999};
        for (int step : steps) {
            int day = step / 96;
            same("hour of " + step, x.due(3, step, 0, 0), (step - 96 * day) / 4);
            same("day of " + step, x.due(1, step, 0, 0), day);
            same("fog of " + step, x.due(0, step, 0, 0), day == 1 ? 2 : day == 41 ? 3 : 0);
            same("short", x.due(4, step, step - 50, 0), step - 50);
        }
        says(0, "THE DUE of price in it (with short 0; 0 without; 0 in lines of price themselves)");
        tell(x, 0, 0, "fine price; price 3 + short when hour < 2; candles price * 10 + short; dividend 1 when price = 3;");
        same("in fine", x.due(3, 0, 9, 0), 3);
        same("in candles", x.due(1, 0, 9, 0), 39);
        same("in a test", x.due(4, 0, 9, 0), 1);
        same("price itself", x.due(2, 0, 9, 0), 12);
        same("without", x.due(3, 8, 9, 0), 0);
        same("without", x.due(1, 8, 9, 0), 9);
        none("without", x.due(4, 8, 9, 1));
        tell(x, 1, 1, "price price + 5; price 6 when price = 0; price 7 when price > 0;");
        same("price on day 1", x.due(2, 96, 0, 0), 5);
        same("the second line tells, the third does not", x.due(2, 96, 0, 2), 1);
        same("fine on day 1", x.due(3, 96, 0, 0), 5);
        tell(x, 1, 1, "price 7 when price > 0; price 0 - 4;");
        same("a price below 0 is not cut", x.due(3, 96, 0, 0), -4);
        tell(x, 1, 1, "price 20000;");
        same("a price above 9999 is not cut", x.due(3, 96, 0, 0), 20000);
        same("on day 0 as it was", x.due(3, 0, 0, 0), 3);
        tell(x, 2, 2, "price 1 when short = 0; price 2;");
        same("short is 0 in it", x.due(3, 192, 8, 0), 1);
        same("price itself", x.due(2, 192, 8, 0), 2);
    }
}
