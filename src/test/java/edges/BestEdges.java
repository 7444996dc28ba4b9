/** Promises 16 to 18: what is best. */
final class BestEdges extends Edge {
    private BestEdges() {
    }

    static void all() {
        refusals();
        turned();
        call();
        ahead();
        aheadOfSix();
        bestMark();
        seldom();
        seldomOfDays();
        more();
        moreDays();
    }

    private static void refusals() {
        says(16, "What 0 CALL, 1 AHEAD (-5: none), 2 BEST, 3 TURNED. NONE.");
        for (int what : new int[] {-1, 4, LEAST, MOST}) {
            refusedAlways("what " + what, NONE, x -> x.best(what));
        }
        WellLendsDepth x = new WellLendsDepth();
        due("CALL of none", x.best(0), NOBODY);
        due("AHEAD of none", x.best(1), NOBODY);
        due("BEST of none", x.best(2), 95);
        due("TURNED of none", x.best(3), 0);
        says(17, "SELDOM. NONE.");
        for (int b : new int[] {-1, 6, LEAST, MOST}) {
            refusedAlways("BORROWER " + b, NONE, w -> w.seldom(b));
        }
        still("the first that has not come", NONE, Script.LIVELY, w -> w.seldom(4));
        says(18, "MORE; -5. BAD.");
        for (int n : new int[] {0, -1, 13, LEAST, MOST}) {
            refusedAlways("n " + n, BAD, w -> w.more(n));
        }
    }

    private static void turned() {
        says(16, "TURNED is SENT of all more in 30 DAYS.");
        WellLendsDepth x = Script.well("depth 0", "borrower 0 0 1 20");
        due("DAYS 0 and 20 of 0 .. 29", x.best(3), 2);
        x.pass(1);
        due("DAY 20 of 1 .. 30", x.best(3), 1);
        x.pass(9);
        due("DAY 40 is no more of 10 .. 39", x.best(3), 1);
        x.pass(1);
        due("DAY 40 is the last of 11 .. 40", x.best(3), 2);
        x.set(0, 1, 1);
        due("all 30", x.best(3), 30);
        for (int i = 1; i < 6; i++) {
            x.borrower(GREEDY, 0, 99, 1);
        }
        due("all 30 of six", x.best(3), 180);
    }

    /** Two that stay away for ever with 30 each, and one that finds too little unless one of them is called in. */
    private static WellLendsDepth twoAway() {
        WellLendsDepth x = Script.in("dear 99 k=4");
        Script.play(x, "borrower 0 0 40 1", "borrower 4 0 30 20", "borrower 4 0 30 20", "depth 110", "pass 1", "call 0");
        return x;
    }

    private static void call() {
        says(16, "CALL: who of those who HAVE something should be CALLED in now, so that TURNED is least, if less than it is (of several the first; -5: none).");
        WellLendsDepth x = twoAway();
        due("HAS of 1", x.of(1, 4), 30);
        due("HAS of 2", x.of(2, 4), 30);
        x.depth(19);
        due("TURNED", x.best(3), 30);
        due("19 and 30 is one too little", x.best(0), NOBODY);
        x.depth(20);
        due("TURNED as well", x.best(3), 30);
        due("20 and 30 is enough: of 1 and 2 the first", x.best(0), 1);
        x.change(0, 2);
        due("whatever their places", x.best(0), 1);
        x.depth(9999);
        due("none is SENT: not less than that", x.best(0), NOBODY);
        WellLendsDepth least = Script.in("dear 99 k=4;dear 99 k=4;dear 99 k=4;dear 99 k=4");
        Script.play(least, "borrower 4 0 1 20", "borrower 0 0 20 1", "pass 1", "call 1", "depth 29");
        due("HAS 1", least.of(0, 4), 1);
        due("one that HAS 1 is enough", least.best(0), 0);
        WellLendsDepth y = Script.well("borrower 0 0 91 1");
        due("TURNED, nobody HAS", y.best(3), 30);
        due("nobody HAS something", y.best(0), NOBODY);
        WellLendsDepth z = Script.in("dear 99 k=4");
        Script.play(z, "borrower 4 0 30 20", "borrower 4 0 50 20", "borrower 0 0 60 1", "depth 90", "pass 1");
        due("both stay away", z.told(1), 10);
        z.depth(20);
        // 20 and 30 are not 70, 20 and 50 are
        due("the second alone helps", z.best(0), 1);
        z.depth(40);
        z.pass(20);
        due("by now both help", calledIsLess(z, 0) & calledIsLess(z, 1), 1);
        due("the first that makes it least", z.best(0), leastCalled(z));
    }

    private static int turnedCalled(WellLendsDepth x, int b) {
        x.image();
        x.call(b);
        int turned = x.best(3);
        x.undo();
        return turned;
    }

    private static int calledIsLess(WellLendsDepth x, int b) {
        return turnedCalled(x, b) < x.best(3) ? 1 : 0;
    }

    private static int leastCalled(WellLendsDepth x) {
        int least = x.best(3);
        int who = NOBODY;
        for (int b = 0; b < x.count(0); b++) {
            if (x.of(b, 4) > 0 && turnedCalled(x, b) < least) {
                least = turnedCalled(x, b);
                who = b;
            }
        }
        return who;
    }

    private static void ahead() {
        says(16, "AHEAD: the two places in THE LINE whose BORROWERS should change, so that TURNED is least, if less than it is (10 times the lesser and the greater; of several the first; -5: none).");
        WellLendsDepth one = Script.well("borrower 0 0 91 1");
        due("one alone", one.best(1), NOBODY);
        WellLendsDepth two = Script.well("borrower 0 0 90 20", "borrower 0 0 1 1");
        // 90 first: the other is SENT on DAYS 0, 1, 2, and 90 on DAY 20; the other first: 90 on DAYS 0 and 20
        due("TURNED", two.best(3), 4);
        due("0 and 1", two.best(1), 1);
        two.change(0, 1);
        due("TURNED changed", two.best(3), 2);
        due("not less the other way", two.best(1), NOBODY);
        WellLendsDepth alike = Script.well("depth 10", "borrower 0 0 1 1", "borrower 0 0 1 1");
        due("TURNED alike", alike.best(3), 60);
        due("alike is not less", alike.best(1), NOBODY);
        WellLendsDepth several = Script.well("borrower 0 0 90 20", "borrower 0 0 1 20", "borrower 0 0 1 20");
        // 90 first: both others are SENT; any behind a 1: 90 alone is SENT; so 0 and 1, 0 and 2 do alike
        due("TURNED of three", several.best(3), 4);
        due("of several the first", several.best(1), 1);
    }

    /** Four of 1 ahead, then one of 86 that comes seldom: what is left is MARK, and the last is SENT while that is gone. */
    private static void aheadOfSix() {
        WellLendsDepth x = Script.well("borrower 0 0 1 1", "borrower 0 0 1 1", "borrower 0 0 1 1", "borrower 0 0 1 1",
            "borrower 0 0 86 20", "borrower 0 0 1 1");
        int now = x.best(3);
        int least = now;
        int pair = NOBODY;
        for (int i = 0; i < 6; i++) {
            for (int j = i + 1; j < 6; j++) {
                x.image();
                x.change(i, j);
                int turned = x.best(3);
                x.undo();
                if (turned < least) {
                    least = turned;
                    pair = 10 * i + j;
                }
            }
        }
        due("the greatest of all pairs", pair, 45);
        due("4 and 5", x.best(1), 45);
    }

    private static void bestMark() {
        says(16, "BEST: the multiple of 5 (0 .. 95) by which, were it MARK, TURNED is least (of several the greatest).");
        WellLendsDepth x = Script.well("borrower 0 0 99 20");
        int[][] depthBest = {{98, 95}, {99, 0}, {103, 0}, {104, 5}, {108, 5}, {109, 10}, {193, 90}, {194, 95},
            {198, 95}, {199, 95}, {9999, 95}};
        for (int[] one : depthBest) {
            x.depth(one[0]);
            due("of DEPTH " + one[0], x.best(2), one[1]);
        }
        due("MARK is as it was", x.told(2), 10);
        WellLendsDepth y = Script.in("mark 99");
        y.borrower(BORROWER, 0, 99, 20);
        y.depth(104);
        due("whatever MARK is", y.best(2), 5);
        // TAKING asks for 1 where MARK is 95, for 80 where it is 10: it is SENT by MARK 95 if it asks as MARK is now
        WellLendsDepth z = Script.well("borrower 5 0 40 20", "depth 96");
        due("TAKING ASKS as MARK is now", z.of(0, 9), 80);
        due("but as MARK would be then", z.best(2), 95);
    }

    private static void seldom() {
        says(17, "SELDOM of one: the EVERY (1 .. 20) by which, were it that, TURNED is least (of several the least).");
        WellLendsDepth x = Script.well("borrower 0 0 90 20");
        due("never SENT: the least", x.seldom(0), 1);
        x.depth(0);
        due("DAY 0 is of all; twice by 15 .. 20", x.seldom(0), 15);
        x.pass(1);
        due("of 1 .. 30 once by 16 .. 20", x.seldom(0), 16);
        due("EVERY is as it was", x.of(0, 3), 20);
    }

    /** On DAYS d .. d and 29 one that is always SENT is SENT so often as there are multiples of its EVERY. */
    private static void seldomOfDays() {
        WellLendsDepth x = Script.well("depth 0", "borrower 0 0 1 7");
        int twenty = 0;
        for (int day = 0; day < 200; day++) {
            int least = 31;
            int due = 0;
            for (int every = 1; every <= 20; every++) {
                int times = 0;
                for (int i = day; i < day + 30; i++) {
                    times += i % every == 0 ? 1 : 0;
                }
                if (times < least) {
                    least = times;
                    due = every;
                }
            }
            due("on DAY " + day, x.seldom(0), due);
            twenty += due == 20 ? 1 : 0;
            x.pass(1);
        }
        due("20 was due some time", twenty > 0 ? 1 : 0, 1);
    }

    private static void more() {
        says(18, "MORE of n DAYS (1 .. 12): the least multiple of 10 (0 .. 990) by which, were DEPTH so much more now (9999 at most), nobody is SENT away in these (-5: none).");
        WellLendsDepth none = Script.well("depth 0");
        due("of none", none.more(1), 0);
        due("of none in 12", none.more(12), 0);
        WellLendsDepth x = new WellLendsDepth();
        for (int i = 0; i < 6; i++) {
            x.borrower(GREEDY, 0, 99, 1);
        }
        // six times 198 and MARK are 1198
        int[][] depthMore = {{0, NOBODY}, {207, NOBODY}, {208, 990}, {217, 990}, {218, 980}, {1187, 20}, {1188, 10},
            {1197, 10}, {1198, 0}, {9999, 0}};
        for (int[] one : depthMore) {
            x.depth(one[0]);
            due("of DEPTH " + one[0], x.more(1), one[1]);
            due("in 12 of DEPTH " + one[0], x.more(12), one[1]);
            due("DEPTH is as it was", x.told(1), one[0]);
        }
    }

    private static void moreDays() {
        // LOSING takes 50 of 60 on DAY 0 and brings 45 back on DAY 3: on DAY 12 there is 5 too little
        WellLendsDepth x = Script.well("depth 60", "borrower 3 0 50 12");
        due("12 DAYS are 0 .. 11", x.more(12), 0);
        x.pass(1);
        due("11 DAYS are 1 .. 11", x.more(11), 0);
        due("12 DAYS are 1 .. 12", x.more(12), 10);
        x.pass(11);
        due("1 DAY is 12", x.more(1), 10);
    }
}
