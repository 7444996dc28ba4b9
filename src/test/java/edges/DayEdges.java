/** Promises 3 and 12: what of a borrower, and how days go. */
final class DayEdges extends Edge {
    private static final int[] KINDS = {BORROWER, LATE, GREEDY, LOSING, STRAY, TAKING, TOLD};
    private static final int BEHIND_9960 = 166;

    private DayEdges() {
    }

    static void all() {
        of();
        ranges();
        asksOfKinds();
        asksOfTaking();
        asksOfTold();
        keeps();
        staysAway();
        bringsBack();
        line();
        owes();
        owes99999();
        left();
        keepsAgain();
        backAtMost();
        comes();
        mark();
        sent();
        spring();
        pass();
        lastDays();
    }

    private static void of() {
        says(3, "Of a BORROWER what 0 KIND, 1 v, 2 WANTS, 3 EVERY, 4 HAS, 5 LEFT, 6 OWES, 7 SENT, 8 RATE, 9 ASKS, 10 KEEPS, 11 whether it STAYS AWAY, 12 what it BRINGS BACK. NONE.");
        for (int b : new int[] {-1, 6, LEAST, MOST}) {
            refusedAlways("BORROWER " + b, NONE, x -> x.of(b, 0));
        }
        still("the last that has come", BORROWER, Script.LIVELY, x -> x.of(3, 0));
        still("the first that has not come", NONE, Script.LIVELY, x -> x.of(4, 0));
        for (int what : new int[] {-1, 13, LEAST, MOST}) {
            refused("what " + what, NONE, x -> x.of(0, what));
        }
        refusedAlways("both", NONE, x -> x.of(6, 13));
        for (int what = 0; what <= 12; what++) {
            int one = what;
            asks("of(0, " + what + ")", x -> x.of(0, one));
            asks("of(5, " + what + ")", x -> x.of(5, one));
        }
    }

    private static void ranges() {
        says(3, "HAS (0 .. 999; 0 at first)");
        WellLendsDepth x = Script.well("depth 208", "borrower 2 0 99 1", "pass 1");
        due("the most that one can have", x.of(0, 4), 198);
        due("all but the MARK is gone", x.told(1), 10);
        says(3, "LEFT (for how many DAYS more it keeps that: 0 .. 99; 0 at first)");
        WellLendsDepth y = Script.well("borrower 4 9 1 1", "pass 1");
        due("the longest", y.of(0, 5), 12);
        y.pass(11);
        due("LEFT 1", y.of(0, 5), 1);
        due("HAS it still", y.of(0, 4), 1);
        y.pass(1);
        due("LEFT 0", y.of(0, 5), 0);
        due("HAS nothing", y.of(0, 4), 0);
    }

    private static void asksOfKinds() {
        says(3, "ASKS (so much): BORROWER, LATE, LOSING, STRAY: WANTS. GREEDY: twice WANTS.");
        for (int kind : KINDS) {
            boolean twice = kind == GREEDY || kind == TAKING;
            for (int wants : new int[] {1, 99}) {
                WellLendsDepth x = Script.well("depth 500", "borrower " + kind + " 9 " + wants + " 1");
                due("ASKS of KIND " + kind + " that WANTS " + wants, x.of(0, 9), twice ? 2 * wants : wants);
            }
        }
    }

    private static void asksOfTaking() {
        says(3, "TAKING: as GREEDY, but no more than DEPTH is above MARK (0 at least).");
        int[] marks = {10, 0, 99};
        for (int mark : marks) {
            WellLendsDepth x = Script.in("mark " + mark);
            x.borrower(TAKING, 0, 30, 1);
            int[] above = {-mark, -1, 0, 1, 59, 60, 61, 9999 - mark};
            int[] asks = {0, 0, 0, 1, 59, 60, 60, 60};
            for (int i = 0; i < above.length; i++) {
                x.depth(Math.max(0, mark + above[i]));
                due("ASKS " + above[i] + " above MARK " + mark, x.of(0, 9), asks[i]);
            }
        }
    }

    private static void asksOfTold() {
        says(3, "TOLD: as LOSING, and its ROW (four numbers 0 .. 9; 0 at first) at DAY modulo 4 more.");
        WellLendsDepth x = Script.well("depth 0", "borrower 6 0 99 20", "borrower 3 0 99 20");
        due("with nothing told as LOSING", x.of(0, 9), x.of(1, 9));
        x.row(0, 0, 9);
        x.row(0, 3, 1);
        int[] asks = {108, 99, 99, 100, 108, 99};
        for (int day = 0; day < asks.length; day++) {
            due("ASKS on DAY " + day, x.of(0, 9), asks[day]);
            due("LOSING on DAY " + day, x.of(1, 9), 99);
            x.pass(1);
        }
        WellLendsDepth y = Script.well("depth 118", "borrower 6 0 99 1", "row 0 0 9", "pass 1");
        due("HAS it", y.of(0, 4), 108);
        WellLendsDepth z = Script.well("depth 117", "borrower 6 0 99 1", "row 0 0 9", "pass 1");
        due("HAS nothing, by 1", z.of(0, 4), 0);
    }

    private static void keeps() {
        says(3, "KEEPS (so many DAYS): BORROWER, GREEDY, LOSING, TAKING, TOLD: 3. LATE, STRAY: 3 and v.");
        for (int kind : KINDS) {
            boolean late = kind == LATE || kind == STRAY;
            for (int v : new int[] {0, 1, 9}) {
                WellLendsDepth x = Script.well("borrower " + kind + " " + v + " 1 20");
                int days = late ? 3 + v : 3;
                due("KEEPS of KIND " + kind + ", v " + v, x.of(0, 10), days);
                x.pass(days);
                due("HAS it on the last DAY", x.of(0, 4) > 0 ? 1 : 0, 1);
                x.pass(1);
                due("HAS nothing behind it", x.of(0, 4), 0);
            }
        }
    }

    private static void staysAway() {
        says(3, "STAYS AWAY: STRAY, if it OWES more than 30; nobody else.");
        for (int kind : KINDS) {
            for (int owes = 29; owes <= 32; owes++) {
                // 10 at a RATE of so much, one DAY long
                WellLendsDepth x = Script.in("dear " + (owes - 1) + " b=0");
                x.borrower(kind, 0, kind == GREEDY || kind == TAKING ? 5 : 10, 1);
                due("OWES nothing", x.of(0, 11), 0);
                x.pass(2);
                due("OWES of KIND " + kind, x.of(0, 6), owes);
                due("KIND " + kind + " that OWES " + owes, x.of(0, 11), kind == STRAY && owes > 30 ? 1 : 0);
            }
        }
    }

    private static void bringsBack() {
        says(3, "BRINGS BACK (so much): all that it HAS; LOSING, TOLD: the tenth (cut) of that less.");
        int[] has = {1, 9, 10, 11, 19, 20, 99};
        int[] less = {0, 0, 1, 1, 1, 2, 9};
        for (int kind : new int[] {BORROWER, LATE, LOSING, STRAY, TOLD}) {
            for (int i = 0; i < has.length; i++) {
                WellLendsDepth x = Script.well("depth 200", "borrower " + kind + " 0 " + has[i] + " 20");
                due("of nothing", x.of(0, 12), 0);
                x.pass(1);
                int back = has[i] - (kind == LOSING || kind == TOLD ? less[i] : 0);
                due("KIND " + kind + " that HAS " + has[i], x.of(0, 12), back);
                x.pass(3);
                due("DEPTH behind it", x.told(1), 200 - has[i] + back);
            }
        }
        WellLendsDepth y = Script.well("depth 500", "borrower 2 0 99 20", "borrower 5 0 5 20", "pass 1");
        due("GREEDY", y.of(0, 12), 198);
        due("TAKING", y.of(1, 12), 10);
    }

    private static void line() {
        says(12, "A DAY goes: all in THE LINE are looked at, one behind the other, each by how all is then.");
        String[] two = {"borrower 0 0 80 20", "borrower 0 0 50 1", "pass 3"};
        WellLendsDepth x = Script.well(two);
        due("SENT on DAYS 0, 1, 2", x.of(1, 7), 3);
        x.pass(1);
        due("what one ahead brings back is there", x.of(1, 4), 50);
        WellLendsDepth y = Script.well(two);
        y.change(0, 1);
        y.pass(1);
        due("what one behind brings back is not", y.of(1, 7), 4);
        due("but is there then", y.told(1), 100);
        due("none: DEPTH stays", new WellLendsDepth().pass(60), 100);
    }

    private static void owes() {
        says(12, "One that HAS something OWES the tenth (cut) of RATE times what it HAS more (99999 at most),");
        int[][] rateHasOwes = {{1, 1, 0}, {1, 9, 0}, {1, 10, 1}, {1, 19, 1}, {1, 20, 2}, {1, 99, 9},
            {3, 3, 0}, {5, 2, 1}, {7, 7, 4}, {10, 1, 1}, {9, 1, 0}, {100, 99, 990}};
        for (int[] one : rateHasOwes) {
            WellLendsDepth x = Script.in("dear " + (one[0] - 1) + " b=0");
            x.depth(200);
            x.borrower(BORROWER, 0, one[1], 20);
            x.pass(1);
            due("on the DAY on which it comes", x.of(0, 6), 0);
            x.pass(1);
            due("RATE " + one[0] + ", HAS " + one[1], x.of(0, 6), one[2]);
            x.pass(2);
            due("three DAYS of that", x.of(0, 6), 3 * one[2]);
            x.pass(15);
            due("no more while it HAS nothing", x.of(0, 6), 3 * one[2]);
        }
        WellLendsDepth free = Script.in("cheap 1 b=0");
        free.borrower(BORROWER, 0, 90, 1);
        free.pass(60);
        due("a RATE of 0", free.of(0, 6), 0);
    }

    /** 777 times 143 is 111111: nine DAYS of the tenth are 99999. */
    private static void owes99999() {
        says(12, "OWES (0 .. 99999; 0 at first),");
        String country = "dear 99 b=0;dear 99 b=0;dear 99 b=0;dear 99 b=0;dear 99 b=0;dear 99 b=0;dear 99 b=0;dear 83 b=0";
        WellLendsDepth x = Script.in(country);
        x.depth(153);
        x.borrower(TAKING, 0, 99, 1);
        x.pass(11);
        due("HAS", x.of(0, 4), 143);
        due("eight DAYS", x.of(0, 6), 88888);
        x.pass(1);
        due("nine DAYS: just the most", x.of(0, 6), 99999);
        x.pass(2);
        due("one more", x.of(0, 6), 99999);
        WellLendsDepth y = Script.in(country);
        y.depth(154);
        y.borrower(TAKING, 0, 99, 1);
        y.pass(11);
        due("eight DAYS of 11188", y.of(0, 6), 89504);
        due("one more is told ahead as it will be", y.on(1, 20), 99999);
        y.pass(1);
        due("nine would be 100692", y.of(0, 6), 99999);
    }

    private static void left() {
        says(12, "and its LEFT is 1 less (0 at least);");
        WellLendsDepth x = Script.well("borrower 0 0 10 20");
        for (int left : new int[] {3, 2, 1, 0, 0, 0}) {
            x.pass(1);
            due("LEFT behind DAY " + (x.told(0) - 1), x.of(0, 5), left);
        }
    }

    private static void keepsAgain() {
        says(12, "if that is 0 then, it KEEPS it for so many DAYS again, if it STAYS AWAY,");
        WellLendsDepth x = Script.in("dear 27 l=1");
        x.borrower(STRAY, 0, 10, 20);
        x.pass(4);
        due("1, 1 and 28", x.of(0, 6), 30);
        due("30 is not enough: HAS", x.of(0, 4), 0);
        due("LEFT", x.of(0, 5), 0);
        due("DEPTH", x.told(1), 100);
        for (int v : new int[] {0, 9}) {
            WellLendsDepth y = Script.in("dear 28 l=1;cheap 1 l>3");
            y.borrower(STRAY, v, 10, 20);
            y.pass(3 + v);
            due("LEFT ahead of the last DAY", y.of(0, 5), 1);
            y.pass(1);
            due("1, 1 and 29", y.of(0, 6), 31);
            due("HAS it still", y.of(0, 4), 10);
            due("LEFT again", y.of(0, 5), 3 + v);
            due("DEPTH", y.told(1), 90);
            y.pass(3 + v);
            due("and again", y.of(0, 5), 3 + v);
        }
    }

    private static void backAtMost() {
        says(12, "else DEPTH is what it BRINGS BACK more (9999 at most), and it HAS 0.");
        int[][] depths = {{9988, 9998, 9997}, {9989, 9999, 9998}, {9990, 9999, 9999}, {9991, 9999, 9999}, {9999, 9999, 9999}};
        for (int[] one : depths) {
            for (int kind : new int[] {BORROWER, LOSING}) {
                WellLendsDepth x = Script.well("borrower " + kind + " 0 10 20", "pass 3", "depth " + one[0]);
                due("on(1, 0)", x.on(1, 0), one[kind == BORROWER ? 1 : 2]);
                due("KIND " + kind + " to DEPTH " + one[0], x.pass(1), one[kind == BORROWER ? 1 : 2]);
                due("HAS", x.of(0, 4), 0);
            }
        }
    }

    private static void comes() {
        says(12, "One that HAS nothing comes, if DAY is a multiple of its EVERY:");
        for (int every = 1; every <= 20; every++) {
            WellLendsDepth x = Script.well("depth 0", "borrower 0 0 1 " + every, "pass 1");
            due("DAY 0 is one of " + every, x.of(0, 7), 1);
            x.pass(every - 1);
            due("none between, of " + every, x.of(0, 7), 1);
            x.pass(1);
            due("DAY " + every + " is one", x.of(0, 7), 2);
            x.pass(every);
            due("DAY " + 2 * every + " is one", x.of(0, 7), 3);
        }
        WellLendsDepth y = Script.well("borrower 0 0 10 1", "pass 4");
        due("none on the DAY on which it brings back", y.of(0, 4), 0);
        y.pass(1);
        due("but on the next one", y.of(0, 4), 10);
    }

    private static void mark() {
        says(12, "if it ASKS for more than 0, and DEPTH is MARK or more without that, it HAS that (DEPTH less by it), and its LEFT is what it KEEPS;");
        for (int mark : new int[] {0, 10, 99}) {
            WellLendsDepth x = Script.in("mark " + mark);
            x.borrower(BORROWER, 0, 30, 1);
            x.depth(mark + 30);
            x.pass(1);
            due("just MARK " + mark, x.of(0, 4), 30);
            due("DEPTH", x.told(1), mark);
            due("LEFT", x.of(0, 5), 3);
            due("SENT", x.of(0, 7), 0);
            x.call(0);
            x.depth(mark + 29);
            x.pass(1);
            due("one less than MARK " + mark, x.of(0, 4), 0);
            due("DEPTH", x.told(1), mark + 29);
            due("LEFT", x.of(0, 5), 0);
            due("SENT", x.of(0, 7), 1);
        }
        WellLendsDepth y = Script.well("borrower 5 0 30 1", "depth 10", "pass 1");
        due("ASKS for 0", y.of(0, 7), 1);
        due("LEFT", y.of(0, 5), 0);
        y.depth(11);
        y.pass(1);
        due("ASKS for 1", y.of(0, 4), 1);
        due("SENT", y.of(0, 7), 1);
    }

    private static void sent() {
        says(12, "else it is SENT away: SENT is 1 more, and it OWES FINE less (0 at least).");
        int[][] fineOwes = {{0, 3}, {1, 2}, {2, 1}, {3, 0}, {4, 0}, {99, 0}};
        for (int[] one : fineOwes) {
            WellLendsDepth x = Script.in("fine " + one[0]);
            x.borrower(BORROWER, 0, 10, 1);
            x.pass(4);
            due("OWES ahead", x.of(0, 6), 3);
            x.depth(0);
            x.pass(1);
            due("FINE " + one[0], x.of(0, 6), one[1]);
            due("SENT", x.of(0, 7), 1);
            x.pass(1);
            due("FINE " + one[0] + " again", x.of(0, 6), Math.max(0, 3 - 2 * one[0]));
        }
    }

    private static void spring() {
        says(12, "Then DEPTH is SPRING more (9999 at most). DAY is 1 more.");
        int[][] springs = {{0, 9999, 9999}, {1, 9997, 9998}, {1, 9998, 9999}, {1, 9999, 9999},
            {99, 9899, 9998}, {99, 9900, 9999}, {99, 9901, 9999}, {99, 0, 99}};
        for (int[] one : springs) {
            WellLendsDepth x = Script.in("spring " + one[0]);
            x.depth(one[1]);
            due("on(1, 0)", x.on(1, 0), one[2]);
            due("SPRING " + one[0] + " on " + one[1], x.pass(1), one[2]);
            due("DAY", x.told(0), 1);
        }
        WellLendsDepth y = Script.in("spring 20");
        y.depth(10);
        y.borrower(BORROWER, 0, 20, 1);
        y.pass(1);
        due("it comes behind all are looked at", y.of(0, 7), 1);
        y.pass(1);
        due("so it is there on the next DAY", y.of(0, 4), 20);
    }

    private static void pass() {
        says(12, "n DAYS (0 .. 60) go: DEPTH then. BAD; STATE: DAY would be above 9999.");
        for (int n : new int[] {-1, 61, LEAST, MOST}) {
            refusedAlways("n " + n, BAD, x -> x.pass(n));
        }
        still("no DAY", 100, Script.FRESH, x -> x.pass(0));
        for (String[] lines : new String[][] {Script.LIVELY, Script.FULL}) {
            WellLendsDepth x = Script.well(lines);
            int depth = x.told(1);
            still("no DAY", depth, lines, w -> w.pass(0));
            int day = x.told(0);
            int then = x.on(60, 0);
            due("60 DAYS", x.pass(60), then);
            due("told(0)", x.told(0), day + 60);
        }
        String[] last = lastDay(0);
        still("DAY 9999 and 1", STATE, last, x -> x.pass(1));
        still("DAY 9999 and 60", STATE, last, x -> x.pass(60));
        still("DAY 9999 and 61", BAD, last, x -> x.pass(61));
        still("DAY 9999 and none", 0, last, x -> x.pass(0));
        String[] sixty = lastDay(60);
        WellLendsDepth x = Script.well(sixty);
        due("DAY", x.told(0), 9939);
        due("and 60", x.pass(60), 0);
        due("is the last", x.told(0), 9999);
        still("DAY 9940 and 60", STATE, lastDay(59), w -> w.pass(60));
        WellLendsDepth y = Script.well(lastDay(59));
        due("DAY 9940 and 59", y.pass(59), 0);
        due("is the last too", y.told(0), 9999);
    }

    /** Two borrowers in a dry well, until so many DAYS ahead of 9999. */
    private static String[] lastDay(int ahead) {
        String[] lines = new String[BEHIND_9960 + 4];
        lines[0] = "depth 0";
        lines[1] = "borrower 0 0 1 1";
        lines[2] = "borrower 0 0 1 20";
        int left = 9999 - ahead;
        for (int i = 3; i < lines.length; i++) {
            lines[i] = "pass " + Math.min(60, left);
            left -= Math.min(60, left);
        }
        return lines;
    }

    private static void lastDays() {
        says(12, "SENT (how many times it was sent away: 0 .. 9999; 0 at first).");
        WellLendsDepth x = Script.well(lastDay(1));
        due("SENT on each of 9998 DAYS", x.of(0, 7), 9998);
        x.pass(1);
        due("SENT on each of 9999 DAYS", x.of(0, 7), 9999);
        due("of the other, on DAYS 0, 20 .. 9980", x.of(1, 7), 500);
        says(13, "All that follows is asked, goes on from how all is (DAYS, SENT also beyond 9999), and changes nothing.");
        due("SENT beyond, and on DAY 10000", x.on(2, 1), 3);
        due("SENT by 60", x.on(60, 1), 63);
        due("TURNED", x.best(3), 32);
        due("FIRST", x.first(), 0);
        x.set(0, 1, 20);
        due("on DAY 10000", x.first(), 1);
        due("not on DAY 9999", x.on(1, 1), 0);
        due("the DAY is told", x.told(0), 9999);
        due("MORE by DAY 10000", x.more(2), 20);
        x.year(0, 0);
        x.year(0, 0);
        due("a YEAR beyond", x.gone(1), 2);
        due("ODDS beyond", x.odds(2, 0), 0);
    }
}
