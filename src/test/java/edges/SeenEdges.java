/** Promises 19 to 23: what was seen, what one can want and be, odds, means. */
final class SeenEdges extends Edge {
    private SeenEdges() {
    }

    static void all() {
        see();
        seenOfAsking();
        wanted();
        wantedEnds();
        can();
        canEnds();
        oddsRefused();
        odds();
        oddsDays();
        mean();
    }

    private static void see() {
        says(19, "What is SEEN comes: how many there are (depth -1: none then, 0, whatever the other is). BAD: depth, n; FULL: 5.");
        for (int depth : new int[] {-2, 10000, LEAST, MOST}) {
            refusedAlways("DEPTH " + depth, BAD, x -> x.see(depth, 0));
        }
        for (int n : new int[] {-1, 11, LEAST, MOST}) {
            refusedAlways("n " + n, BAD, x -> x.see(0, n));
        }
        still("a sixth", FULL, Script.FULL, x -> x.see(0, 0));
        still("a sixth, the greatest", FULL, Script.FULL, x -> x.see(9999, 10));
        for (int n : new int[] {-1, 0, 11, LEAST, MOST}) {
            WellLendsDepth x = Script.well("see 1 1", "see 2 2");
            due("none then, whatever " + n + " is", x.see(-1, n), 0);
            due("count(2)", x.count(2), 0);
            due("none of none", x.see(-1, n), 0);
        }
        says(19, "SEEN told by hand: DEPTH (0 .. 9999) behind n DAYS (0 .. 10) from the DAY on which it is asked (5 at most).");
        WellLendsDepth x = new WellLendsDepth();
        int[][] five = {{0, 0}, {9999, 10}, {0, 10}, {9999, 0}, {0, 0}};
        for (int i = 0; i < 5; i++) {
            due("number " + i, x.see(five[i][0], five[i][1]), i + 1);
        }
        due("the first that finds it full", x.see(0, 0), FULL);
        due("count(2)", x.count(2), 5);
        due("empty", x.see(-1, 0), 0);
        due("and one again", x.see(1, 1), 1);
    }

    private static void seenOfAsking() {
        WellLendsDepth x = Script.well("borrower 0 0 20 20", "see 80 0");
        due("behind 0 DAYS it is 100", x.wanted(0, 0), 0);
        x.pass(1);
        due("a DAY behind it is 80", x.wanted(0, 0), 99);
        x.see(80, 2);
        x.see(100, 3);
        x.see(100, 10);
        due("and so behind 2, 3, 10 from then on", x.wanted(0, 0), 99);
        x.see(100, 2);
        due("but not otherwise too", x.wanted(0, 0), 0);
    }

    private static void wanted() {
        says(20, "WANTED: what 0 how many, 1 the least; -5. NONE.");
        for (int b : new int[] {-1, 6, LEAST, MOST}) {
            refusedAlways("BORROWER " + b, NONE, x -> x.wanted(b, 0));
        }
        still("the first that has not come", NONE, Script.LIVELY, x -> x.wanted(4, 1));
        for (int what : new int[] {-1, 2, LEAST, MOST}) {
            refused("what " + what, NONE, x -> x.wanted(0, what));
        }
        says(20, "WANTED of one: how many numbers (1 .. 99) there are by which, were that its WANTS now, all of SEEN is so; the least (-5: none).");
        WellLendsDepth x = Script.well("borrower 0 0 50 1", "depth 109");
        due("nothing SEEN: all", x.wanted(0, 0), 99);
        due("the least of all", x.wanted(0, 1), 1);
        x.see(0, 1);
        due("none", x.wanted(0, 0), 0);
        due("no least", x.wanted(0, 1), NOBODY);
        due("WANTS as it was", x.of(0, 2), 50);
    }

    private static void wantedEnds() {
        WellLendsDepth x = Script.well("borrower 0 0 50 1", "depth 109");
        for (int left : new int[] {9, 10, 11, 107, 108, 109}) {
            x.see(-1, 0);
            x.see(left, 1);
            boolean one = left >= 10 && left <= 108;
            due("how many leave " + left, x.wanted(0, 0), one ? 1 : 0);
            due("who leaves " + left, x.wanted(0, 1), one ? 109 - left : NOBODY);
        }
        // with 108 there is too little for 99 alone
        x.depth(108);
        x.see(-1, 0);
        x.see(108, 1);
        due("the greatest is SENT", x.wanted(0, 0), 1);
        due("that is 99", x.wanted(0, 1), 99);
    }

    private static void can() {
        says(21, "CAN: what 0 how many, 1 the least; -5. NONE.");
        for (int b : new int[] {-1, 6, LEAST, MOST}) {
            refusedAlways("BORROWER " + b, NONE, x -> x.can(b, 0));
        }
        still("the first that has not come", NONE, Script.LIVELY, x -> x.can(4, 1));
        for (int what : new int[] {-1, 2, LEAST, MOST}) {
            refused("what " + what, NONE, x -> x.can(0, what));
        }
        says(21, "CAN of one: how many numbers v (0 .. 9) there are by which, were that its v now, all of SEEN is so; the least (-5: none).");
        WellLendsDepth x = Script.well("borrower 1 5 30 20");
        due("nothing SEEN: all", x.can(0, 0), 10);
        due("the least of all", x.can(0, 1), 0);
        // LATE with v brings back on DAY 3 and v
        x.see(70, 10);
        due("not yet behind 10", x.can(0, 0), 3);
        due("7, 8, 9", x.can(0, 1), 7);
        x.see(-1, 0);
        x.see(100, 4);
        due("already behind 4", x.can(0, 0), 1);
        due("0 alone", x.can(0, 1), 0);
        x.see(-1, 0);
        x.see(100, 3);
        due("none", x.can(0, 0), 0);
        due("no least", x.can(0, 1), NOBODY);
        due("v as it was", x.of(0, 1), 5);
    }

    /** One that OWES enough to stay away if v is 9, and brings back if it is another. */
    private static void canEnds() {
        WellLendsDepth x = Script.in("dear 99 v=9");
        Script.play(x, "borrower 4 0 20 20", "pass 3");
        due("LEFT", x.of(0, 5), 1);
        x.see(80, 1);
        due("9 alone", x.can(0, 0), 1);
        due("that is the greatest", x.can(0, 1), 9);
        x.see(-1, 0);
        x.see(100, 1);
        due("0 .. 8", x.can(0, 0), 9);
        due("of those the least", x.can(0, 1), 0);
    }

    private static void oddsRefused() {
        says(22, "ODDS; part 0 above, 1 below the line. NO.");
        for (int n : new int[] {-1, 61, LEAST, MOST}) {
            refusedAlways("ODDS of n " + n, NO, x -> x.odds(n, 0));
        }
        for (int part : new int[] {-1, 2, LEAST, MOST}) {
            refusedAlways("ODDS, part " + part, NO, x -> x.odds(1, part));
        }
        still("above of none", NO, Script.FRESH, x -> x.odds(0, 0));
        still("below of none", NO, Script.FRESH, x -> x.odds(60, 1));
        says(23, "MEAN; part likewise. NO.");
        for (int n : new int[] {-1, 61, LEAST, MOST}) {
            refusedAlways("MEAN of n " + n, NO, x -> x.mean(n, 0));
        }
        for (int part : new int[] {-1, 2, LEAST, MOST}) {
            refusedAlways("MEAN, part " + part, NO, x -> x.mean(1, part));
        }
        still("above of none", NO, Script.FRESH, x -> x.mean(0, 0));
        still("below of none", NO, Script.FRESH, x -> x.mean(60, 1));
        says(22, "The constants: `NO = Long.MIN_VALUE`: There is no such number.");
        due("NO", WellLendsDepth.NO, Long.MIN_VALUE);
        due("NO is answered", new WellLendsDepth().odds(0, 0), WellLendsDepth.NO);
    }

    private static void fraction(String what, WellLendsDepth x, int n, int above, int below) {
        due(what + ", above", x.odds(n, 0), above);
        due(what + ", below", x.odds(n, 1), below);
    }

    private static void odds() {
        says(22, "ODDS of n DAYS (0 .. 60): if one of all, each alike likely, does not come any more from now on (what it HAS goes on as told): how likely nobody is SENT away in these: a fraction in lowest terms (NO: there are none).");
        WellLendsDepth x = Script.well("depth 0", "borrower 0 0 1 1");
        fraction("one that does not come", x, 60, 1, 1);
        x.borrower(BORROWER, 0, 1, 1);
        fraction("no DAY", x, 0, 1, 1);
        fraction("either is SENT", x, 1, 0, 1);
        x.depth(11);
        fraction("enough for one", x, 1, 1, 1);
        WellLendsDepth y = new WellLendsDepth();
        for (int i = 1; i <= 6; i++) {
            y.borrower(BORROWER, 0, i == 1 ? 90 : 1, 20);
            // without 90 or without the one other nobody is SENT; of two others and more only without 90
            fraction("90 and " + (i - 1) + " others", y, 1, 1, i < 3 ? 1 : i);
        }
        y.set(1, 0, 90);
        fraction("two of 90", y, 1, 0, 1);
        WellLendsDepth z = Script.well("borrower 0 0 60 20", "borrower 0 0 60 20", "borrower 0 0 10 20", "borrower 0 0 10 20");
        fraction("2 of 4", z, 1, 1, 2);
        z.depth(9999);
        fraction("4 of 4", z, 60, 1, 1);
        WellLendsDepth has = Script.well("borrower 0 0 60 20", "borrower 0 0 50 3", "pass 1");
        // on DAY 3 the first brings 60 back ahead of the other, though it does not come any more
        fraction("what it HAS goes on", has, 3, 1, 1);
        has.change(0, 1);
        fraction("behind it the other is SENT", has, 3, 1, 2);
    }

    /** LOSING is SENT on DAY 60, if it comes; the other never is. */
    private static void oddsDays() {
        WellLendsDepth x = Script.well("depth 22", "borrower 3 0 10 20", "borrower 0 0 1 9");
        due("FIRST", x.first(), 60);
        fraction("60 DAYS are 0 .. 59", x, 60, 1, 1);
        x.pass(1);
        fraction("59 DAYS are 1 .. 59", x, 59, 1, 1);
        fraction("60 DAYS are 1 .. 60", x, 60, 1, 2);
    }

    private static void mean() {
        says(23, "MEAN of n DAYS (0 .. 60): OWES of all behind n, together, by how many they are: a fraction in lowest terms (NO likewise).");
        WellLendsDepth x = Script.well("borrower 0 0 10 1");
        due("0 of one", x.mean(0, 0), 0);
        due("0 by 1", x.mean(0, 1), 1);
        due("1 of one", x.mean(2, 0), 1);
        due("1 by 1", x.mean(2, 1), 1);
        int[][] aboveBelow = {{3, 2}, {1, 1}, {3, 4}, {3, 5}, {1, 2}};
        for (int i = 0; i < 5; i++) {
            x.borrower(BORROWER, 0, 1, 20);
            due("3 of " + (i + 2), x.mean(4, 0), aboveBelow[i][0]);
            due("3 by " + (i + 2), x.mean(4, 1), aboveBelow[i][1]);
        }
        due("0 of six", x.mean(1, 0), 0);
        due("0 by 1 of six", x.mean(1, 1), 1);
        // 45 DAYS of 60 it HAS 10
        due("60 DAYS: 45 of six", x.mean(60, 0), 15);
        due("45 by six", x.mean(60, 1), 2);
        WellLendsDepth y = Script.in("dear 99 k=4;dear 99 k=4;dear 99 k=4;dear 99 k=4;dear 99 k=4;dear 99 k=4");
        y.depth(9999);
        for (int i = 0; i < 6; i++) {
            y.borrower(STRAY, 9, 99, 1);
        }
        due("the most of all", y.mean(60, 0), 99999);
        due("by 1", y.mean(60, 1), 1);
        due("together", y.on(60, 2), 599994);
    }
}
