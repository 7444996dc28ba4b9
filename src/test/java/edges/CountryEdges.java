/** Promises 9 and 10, RATE of 3 and the numbers of a COUNTRY of 11: texts, clauses, tests, faults. */
final class CountryEdges extends Edge {
    private static final String LONGEST =
        "mark 1;mark 2;mark 3;mark 4;mark 5;mark 6;mark 7;mark 8;mark 9;dear 1 b=00|b=00|b=00|b=0|b=0|b=0|b=0";

    private CountryEdges() {
    }

    static void all() {
        feed();
        textOf100();
        clauses();
        words();
        blanksAndNumbers();
        signs();
        nested();
        faults();
        newest();
        full();
        nothingIsLeft();
        joined();
        joinedDeep();
        rate();
        tests();
        testOfHas();
        testOfDay();
        marks();
    }

    private static void good(String text) {
        WellLendsDepth x = new WellLendsDepth();
        due("\"" + text + "\"", Script.read(x, text), 0);
        due("THE TEXT behind \"" + text + "\"", x.count(5), 0);
        due("COUNTRIES behind \"" + text + "\"", x.count(1), 1);
    }

    /** A fault, and that the COUNTRY that held holds and THE TEXT is empty. */
    private static void fault(String text, int place) {
        WellLendsDepth x = Script.in("mark 3;dear 4 b=0");
        x.borrower(BORROWER, 0, 1, 1);
        due("\"" + text + "\"", Script.read(x, text), -10 - place);
        due("THE TEXT behind \"" + text + "\"", x.count(5), 0);
        due("COUNTRIES behind \"" + text + "\"", x.count(1), 1);
        due("MARK behind \"" + text + "\"", x.told(2), 3);
        due("RATE behind \"" + text + "\"", x.of(0, 8), 5);
    }

    private static void feed() {
        says(9, "A sign (0 .. 127) comes behind THE TEXT's: how many it has. BAD; FULL.");
        WellLendsDepth x = new WellLendsDepth();
        due("of an empty one", x.count(5), 0);
        due("sign 0", x.feed(0), 1);
        due("sign 127", x.feed(127), 2);
        for (int sign : new int[] {-1, 128, 255, 256, 356, LEAST, MOST}) {
            refusedAlways("sign " + sign, BAD, w -> w.feed(sign));
        }
        for (int i = 3; i <= 100; i++) {
            due("sign " + i + " of THE TEXT", x.feed(' '), i);
        }
        due("the first that finds it full", x.feed(' '), FULL);
        due("it has 100", x.count(5), 100);
        still("sign 0 of a full one", FULL, Script.FULL, w -> w.feed(0));
        still("sign 127 of a full one", FULL, Script.FULL, w -> w.feed(127));
        due("the fault", x.country(), -10);
        due("the first of the next one", x.feed('m'), 1);
    }

    private static void textOf100() {
        says(10, "A COUNTRY is read from THE TEXT (bytes, 100 at most):");
        WellLendsDepth x = Script.well("text " + LONGEST);
        due("bytes", x.count(5), 100);
        due("one more", x.feed('0'), FULL);
        due("all 100 are read", x.country(), 0);
        due("to the last one", x.told(2), 9);
        fault(LONGEST.substring(0, 99) + "x", 99);
        fault("mark 1;mark 2;mark 3;mark 4;mark 5;mark 6;mark 7;mark 8;mark 9;dear 1 b=0|b=0|b=0|b=0|b=0|b=0|b=0|b=", 100);
        says(10, "THE TEXT, which is empty then, is a COUNTRY, and holds: its number.");
        due("of an empty TEXT", x.country(), -10);
        due("count(5)", x.count(5), 0);
        due("the next number", Script.read(x, "mark 0"), 1);
        due("holds", x.told(2), 0);
    }

    private static void clauses() {
        says(10, "CLAUSES, 1 to 10, with ; between:");
        fault("", 0);
        StringBuilder text = new StringBuilder("mark 1");
        good(text.toString());
        for (int i = 2; i <= 10; i++) {
            text.append(";mark ").append(i % 10);
            good(text.toString());
        }
        fault(text + ";mark 1", text.length());
        fault(text + ";", text.length());
        good("dear 1 b=0;cheap 1 b=0;dear 1 b=0;dear 1 b=0;mark 1;fine 1;fine 1;spring 1;fine 1;fine 1");
        fault("dear 1 b=0;cheap 1 b=0;dear 1 b=0;dear 1 b=0;mark 1;fine 1;fine 1;spring 1;fine 1;dear 1 b=0;", 92);
        fault(";", 0);
        fault("mark 1;", 7);
        fault(";mark 1", 0);
        fault("mark 1;;mark 2", 7);
        fault("mark 1,mark 2", 6);
    }

    private static void words() {
        says(10, "dear n E; cheap n E; mark n; spring n; fine n");
        for (String word : new String[] {"dear", "cheap", "mark", "spring", "fine"}) {
            boolean withE = word.equals("dear") || word.equals("cheap");
            for (int i = 0; i <= word.length(); i++) {
                fault(word.substring(0, i), i);
                fault(word.substring(0, i) + "x", i);
                fault(word.substring(0, i) + "X" + word, i);
            }
            fault(word.toUpperCase(), 0);
            fault(word + word, word.length());
            fault(word + " ", word.length() + 1);
            if (withE) {
                fault(word + " 1", word.length() + 2);
                fault(word + " 1;mark 1", word.length() + 2);
                fault(word + " 1 ", word.length() + 3);
                good(word + " 1 b=0");
            } else {
                good(word + " 1");
                fault(word + " 1 b=0", word.length() + 2);
            }
        }
    }

    private static void blanksAndNumbers() {
        says(10, "(one blank ahead of each part behind the word; n 1 or 2 digits).");
        good("mark 0");
        good("mark 9");
        good("mark 00");
        good("mark 09");
        good("mark 99");
        fault("mark 100", 7);
        fault("mark 099", 7);
        fault("mark1", 4);
        fault("mark  1", 5);
        fault(" mark 1", 0);
        fault("mark 1 ", 6);
        fault("mark 1 ;mark 1", 6);
        fault("mark 1; mark 1", 7);
        fault("mark -1", 5);
        fault("mark x", 5);
        good("dear 0 b=0");
        good("dear 99 b=0");
        fault("dear 100 b=0", 7);
        fault("dear 1b=0", 6);
        fault("dear 12b=0", 7);
        fault("dear 1  b=0", 7);
        fault("dear  1 b=0", 5);
        fault("dear 1 b =0", 8);
        fault("dear 1 b= 0", 9);
        fault("dear 1 b=0 ", 10);
        fault("dear 1 b=0 &b=0", 10);
    }

    /** Whether a sign may stand somewhere, for all signs that there are. */
    private static void signs() {
        says(10, "E: T or T|E. T: F or F&T. F: !F, (E), or a TEST: a letter, < or = or >, a number (1 or 2 digits):");
        for (char sign = 0; sign <= 127; sign++) {
            boolean digit = sign >= '0' && sign <= '9';
            boolean letter = "bkvhld".indexOf(sign) >= 0;
            boolean opens = sign == '!' || sign == '(';
            boolean joins = sign == '&' || sign == '|' || sign == ';';
            goodIf(letter, "dear 1 " + sign + "=1", opens ? 8 : 7);
            goodIf("<=>".indexOf(sign) >= 0, "dear 1 b" + sign + "1", 8);
            goodIf(digit, "dear 1 b=" + sign, 9);
            goodIf(digit, "dear 1 b=1" + sign, joins ? 11 : 10);
            goodIf(false, "dear 1 b=12" + sign, joins ? 12 : 11);
            goodIf(false, "dear 1 (b=1)" + sign, joins ? 13 : 12);
            goodIf(sign == ')', "dear 1 (b=12" + sign, sign == '&' || sign == '|' ? 13 : 12);
            goodIf(digit, "mark 1" + sign, sign == ';' ? 7 : 6);
            goodIf(false, "mark 1;" + sign, "dcmsf".indexOf(sign) >= 0 ? 8 : 7);
            goodIf(false, "" + sign, "dcmsf".indexOf(sign) >= 0 ? 1 : 0);
        }
    }

    private static void goodIf(boolean holds, String text, int place) {
        due("\"" + text + "\"", Script.read(new WellLendsDepth(), text), holds ? 0 : -10 - place);
    }

    private static void nested() {
        says(10, "A ( or ! within 4 others is none.");
        for (int mix = 0; mix < 16; mix++) {
            StringBuilder open = new StringBuilder();
            StringBuilder close = new StringBuilder();
            for (int i = 0; i < 4; i++) {
                boolean not = (mix >> i & 1) == 1;
                open.append(not ? '!' : '(');
                close.append(not ? "" : ")");
            }
            good("dear 1 " + open + "b=1" + close);
            fault("dear 1 " + open + "(b=1)" + close, 11);
            fault("dear 1 " + open + "!b=1" + close, 11);
            fault("dear 1 " + open, 11);
        }
        good("dear 1 !b=1&!b=1&!b=1&!b=1&!b=1&!b=1");
        good("dear 1 (b=1)|(b=1)|(b=1)|(b=1)|(b=1)|(b=1)");
        good("dear 1 ((((b=1))))&((((b=1))))");
        good("dear 1 !!!!b=1|!!!!b=1");
        good("dear 1 ((((b=1)))&(((b=1))))");
        fault("dear 1 ((((b=1)))&((((b=1)))))", 21);
        fault("dear 1 (!(!b=1&!!b=1))", 16);
    }

    private static void faults() {
        says(10, "The FAULT: the place of the first byte with which none begins so (the end of THE TEXT, if it ends too early).");
        String text = "dear 12 !(b<1|k=23)&v>4;spring 5";
        for (int i = 0; i <= text.length(); i++) {
            String begin = text.substring(0, i);
            goodIf(i == 19 || i == 23 || i == 32, begin, i);
            goodIf(false, begin + "?", i);
            goodIf(false, begin + (char) 0, i);
            goodIf(false, begin + (char) 127 + text, i);
        }
        says(10, "-10 less the FAULT (the one that held holds).");
        fault("?", 0);
        fault("mark 1?", 6);
    }

    private static void newest() {
        says(10, "The newest COUNTRY holds (6 at most);");
        WellLendsDepth x = new WellLendsDepth();
        for (int i = 0; i < 6; i++) {
            due("count(1)", x.count(1), i);
            due("number " + i, Script.read(x, "mark " + (20 + i)), i);
            due("it holds", x.told(2), 20 + i);
        }
        due("a seventh", Script.read(x, "mark 26"), FULL);
        due("the sixth holds", x.told(2), 25);
    }

    private static void full() {
        says(10, "FULL: there are 6 (THE TEXT stays);");
        still("a good text", FULL, Script.FULL, WellLendsDepth::country);
        String[] six = {"text mark 1", "country", "text mark 2", "country", "text mark 3", "country",
            "text mark 4", "country", "text mark 5", "country", "text mark 6", "country"};
        still("an empty text", FULL, six, WellLendsDepth::country);
        WellLendsDepth x = Script.well(six);
        due("one with a fault", Script.read(x, "mark"), FULL);
        due("stays", x.count(5), 4);
        due("and goes on", x.feed(' '), 5);
        due("still", x.country(), FULL);
        due("there are 6", x.count(1), 6);
    }

    private static void nothingIsLeft() {
        says(10, "THE TEXT, which is empty then, is a COUNTRY, and holds: its number.");
        for (String ahead : new String[] {"mark 3;spring 5;fine 6;dear 9 b=0;cheap 2 b<9;x", "dear 9 b=0;dear 8 b=0",
            "mark 3;spring 5;fine 6"}) {
            WellLendsDepth x = Script.well("borrower 0 0 1 1");
            Script.read(x, ahead);
            Script.read(x, "dear 4 b=0");
            due("MARK behind " + ahead, x.told(2), 10);
            due("SPRING behind " + ahead, x.told(3), 0);
            due("FINE behind " + ahead, x.told(4), 0);
            due("RATE behind " + ahead, x.of(0, 8), 5);
        }
        // as many bytes of faulty conditions as can be fed, and then the longest text: it has all its tests
        WellLendsDepth y = Script.well("borrower 0 0 1 1", "pass 1");
        for (int i = 0; i < 4; i++) {
            due("a fault at the end of many tests", Script.read(y, "dear 1 b=1|b=1|b=1|b=1|b=1|b=1|b=1|b=1|b=1|b=1|b=1|b=1|b=1|b=1|b=1|b=1|b=1|b=1|b="), -10 - 81);
        }
        due("all its tests", Script.read(y, "dear 7 b=1|b=1|b=1|b=1|b=1|b=1|b=1|b=1|b=1|b=1|b=1|b=1|b=1|b=1|b=1|b=1|b=0;mark 8"), 0);
        due("RATE behind many tests", y.of(0, 8), 8);
        due("MARK behind many tests", y.told(2), 8);
    }

    /** A test of each sign in turn that holds of the one there is, which has the number 0 and v 5, or does not. */
    private static String test(int turn, boolean holds) {
        switch (turn % 3) {
            case 0: return holds ? "b=0" : "b=1";
            case 1: return holds ? "v<6" : "v<5";
            default: return holds ? "v>4" : "v>5";
        }
    }

    private static boolean join(boolean one, boolean and, boolean other) {
        return and ? one && other : one || other;
    }

    private static void holds(String e, boolean holds) {
        due(e, rateIn("dear 1 " + e), holds ? 2 : 1);
    }

    private static void joined() {
        says(10, "E: T or T|E. T: F or F&T. F: !F, (E), or a TEST:");
        for (int bits = 0; bits < 32; bits++) {
            boolean a = (bits & 1) != 0;
            boolean b = (bits & 2) != 0;
            boolean c = (bits & 4) != 0;
            boolean and = (bits & 8) != 0;
            boolean then = (bits & 16) != 0;
            String one = and ? "&" : "|";
            String other = then ? "&" : "|";
            boolean first = join(join(a, and, b), then, c);
            boolean last = join(a, and, join(b, then, c));
            for (int turn = 0; turn < 3; turn++) {
                String x = test(turn, a) + one;
                String y = test(turn + 1, b);
                String z = other + test(turn + 2, c);
                holds(x + y + z, and ? first : last);
                holds("(" + x + y + ")" + z, first);
                holds(x + "(" + y + z + ")", last);
                holds("!" + test(turn, !a) + one + "!" + test(turn, !b) + other + "!" + test(turn, !c), and ? first : last);
                holds("!(" + x + y + ")" + z, join(!join(a, and, b), then, c));
                holds("!(" + x + "!(" + y + z + "))", !join(a, and, !join(b, then, c)));
            }
        }
    }

    /** As deep as it may be nested, and as much left open at once as there can be. */
    private static void joinedDeep() {
        for (int bits = 0; bits < 2048; bits++) {
            String e = test(bits >> 3, (bits & 1) != 0);
            boolean holds = (bits & 1) != 0;
            for (int i = 0; i < 5; i++) {
                boolean and = (bits >> 2 * i + 1 & 1) != 0;
                boolean or = (bits >> 2 * i + 2 & 1) != 0;
                e = test(bits + i, or) + "|" + test(i, and) + "&" + (i == 0 ? e : "(" + e + ")");
                holds = or || and && holds;
            }
            holds(e, holds);
        }
    }

    private static int rateIn(String country) {
        WellLendsDepth x = Script.in(country);
        x.borrower(BORROWER, 5, 1, 1);
        return x.of(0, 8);
    }

    private static void rate() {
        says(3, "RATE of a BORROWER: 1, and the n of all dear whose E holds, less those of all cheap, together (0 at least).");
        due("without", Script.well("borrower 0 0 1 1").of(0, 8), 1);
        due("none holds", rateIn("dear 9 b=1"), 1);
        due("dear 0", rateIn("dear 0 b=0"), 1);
        due("dear 99", rateIn("dear 99 b=0"), 100);
        due("cheap 0", rateIn("cheap 0 b=0"), 1);
        due("cheap 1", rateIn("cheap 1 b=0"), 0);
        due("cheap 2", rateIn("cheap 2 b=0"), 0);
        due("cheap 99", rateIn("cheap 99 b=0"), 0);
        due("1 more", rateIn("dear 9 b=0;cheap 9 b=0"), 1);
        due("just none", rateIn("dear 9 b=0;cheap 10 b=0"), 0);
        due("less than none", rateIn("dear 9 b=0;cheap 11 b=0"), 0);
        due("together, whichever is first", rateIn("cheap 50 b=0;dear 51 b=0"), 2);
        due("those of all", rateIn("dear 10 b=0;dear 20 b=0;dear 40 b=1;cheap 3 b=0;cheap 4 b=0;cheap 5 b=1"), 24);
        due("of eight", rateIn("dear 99 b=0;dear 99 b=0;dear 99 b=0;dear 99 b=0;"
            + "dear 99 b=0;dear 99 b=0;dear 99 b=0;dear 99 b=0"), 793);
    }

    /** Which of six borrowers a test holds of, as the bits of a number. */
    private static int holdsOf(String[] lines, String e) {
        WellLendsDepth x = Script.well(lines);
        Script.read(x, "dear 7 " + e);
        int who = 0;
        for (int b = 0; b < x.count(0); b++) {
            who |= x.of(b, 8) == 8 ? 1 << b : 0;
        }
        return who;
    }

    private static void tests() {
        says(3, "of a BORROWER b its number, k its KIND, v its v, h HAS by 10 (cut), l LEFT, d DAY modulo 10.");
        String[] six = {"borrower 0 9 1 1", "borrower 1 8 1 1", "borrower 2 4 1 1", "borrower 4 4 1 1",
            "borrower 5 1 1 1", "borrower 6 0 1 1"};
        String[] e = {"b=0", "b<1", "b<0", "b>0", "b=5", "b>4", "b>5", "b<6", "b=6", "b=05", "b<99", "b>99",
            "k=0", "k<1", "k<0", "k=6", "k>5", "k>6", "k=3", "k<4", "k=06", "v=9", "v>8", "v>9", "v<10", "v=0", "v<1",
            "v<0", "v=4", "v>3", "v<5", "h=0", "h<1", "h>0", "l=0", "l<1", "l>0", "d=0", "d<1", "d>0"};
        int[] of = {1, 1, 0, 62, 32, 32, 0, 63, 0, 32, 63, 0,
            1, 1, 0, 32, 32, 0, 0, 7, 32, 1, 1, 0, 63, 32, 32,
            0, 12, 15, 60, 63, 63, 0, 63, 63, 0, 63, 63, 0};
        for (int i = 0; i < e.length; i++) {
            due(e[i], holdsOf(six, e[i]), of[i]);
            due("!" + e[i], holdsOf(six, "!" + e[i]), 63 - of[i]);
            due("!!!!" + e[i], holdsOf(six, "!!!!" + e[i]), of[i]);
        }
        String[] late = {"borrower 1 9 1 1", "pass 1"};
        due("l=12 behind the first DAY", holdsOf(late, "l=12"), 1);
        due("l>11", holdsOf(late, "l>11"), 1);
        due("l>12", holdsOf(late, "l>12"), 0);
        due("l<12", holdsOf(late, "l<12"), 0);
    }

    private static void testOfHas() {
        says(3, "h HAS by 10 (cut)");
        int[] wants = {1, 9, 10, 19, 20, 99};
        for (int n : wants) {
            String[] lines = {"depth 500", "borrower 0 0 " + n + " 1", "pass 1"};
            due("h of " + n, holdsOf(lines, "h=" + n / 10), 1);
            due("more than that of " + n, holdsOf(lines, "h>" + n / 10), 0);
            due("less than one more of " + n, holdsOf(lines, "h<" + (n / 10 + 1)), 1);
        }
        String[] most = {"depth 500", "borrower 2 0 99 1", "pass 1"};
        due("h of 198", holdsOf(most, "h=19"), 1);
        due("not more", holdsOf(most, "h>19"), 0);
    }

    private static void testOfDay() {
        says(3, "d DAY modulo 10");
        for (int day : new int[] {0, 1, 9, 10, 11, 19, 20, 59, 60}) {
            String[] lines = {"borrower 0 0 1 1", "pass " + day};
            due("d on DAY " + day, holdsOf(lines, "d=" + day % 10), 1);
            due("d<10 on DAY " + day, holdsOf(lines, "d<10"), 1);
            due("d=10 on DAY " + day, holdsOf(lines, "d=10"), 0);
        }
    }

    private static void marks() {
        says(11, "MARK (10 without), SPRING (0 without), FINE (0 without): the last one's n.");
        int[] without = {10, 0, 0};
        String[] words = {"mark", "spring", "fine"};
        for (int i = 0; i < 3; i++) {
            due("without " + words[i], Script.in("dear 1 b=0").told(2 + i), without[i]);
            due(words[i] + " 0", Script.in(words[i] + " 0").told(2 + i), 0);
            due(words[i] + " 99", Script.in(words[i] + " 99").told(2 + i), 99);
            due("the last " + words[i], Script.in(words[i] + " 5;" + words[i] + " 0").told(2 + i), 0);
            due("of three", Script.in(words[i] + " 5;" + words[i] + " 0;" + words[i] + " 7").told(2 + i), 7);
            WellLendsDepth x = Script.in(words[i] + " 5");
            Script.read(x, "dear 1 b=0");
            due("without again", x.told(2 + i), without[i]);
        }
    }
}
