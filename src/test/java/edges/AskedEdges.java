/** Promises 13 to 15: days to come. */
final class AskedEdges extends Edge {
    private AskedEdges() {
    }

    static void all() {
        on();
        onAsPassing();
        changesNothing();
        lowest();
        lowestFirst();
        first();
    }

    private static void on() {
        says(13, "ON: what 0 DEPTH, 1 SENT more, 2 OWES of all, 10 and b HAS, 20 and b OWES of BORROWER b. NONE; BAD: n.");
        for (int what : new int[] {-1, 3, 9, 16, 19, 26, LEAST, LEAST + 9, LEAST + 10, LEAST + 20, MOST}) {
            refusedAlways("what " + what, NONE, x -> x.on(0, what));
            refusedAlways("what " + what + " of bad n", NONE, x -> x.on(61, what));
        }
        still("HAS of none", NONE, Script.FRESH, x -> x.on(0, 10));
        still("OWES of none", NONE, Script.FRESH, x -> x.on(0, 20));
        still("HAS of the first that has not come", NONE, Script.LIVELY, x -> x.on(0, 14));
        still("OWES of the first that has not come", NONE, Script.LIVELY, x -> x.on(0, 24));
        for (int n : new int[] {-1, 61, LEAST, MOST}) {
            for (int what = 0; what <= 2; what++) {
                int one = what;
                refusedAlways("n " + n, BAD, x -> x.on(n, one));
            }
            still("HAS behind " + n, BAD, Script.LIVELY, x -> x.on(n, 13));
            still("OWES behind " + n, BAD, Script.FULL, x -> x.on(n, 25));
        }
        due("OWES of all of none", new WellLendsDepth().on(60, 2), 0);
        due("SENT of none", new WellLendsDepth().on(60, 1), 0);
    }

    private static void onAsPassing() {
        says(13, "ON n DAYS (0 .. 60): DEPTH; SENT of all more; OWES of all, together; HAS, OWES of one.");
        for (String[] lines : new String[][] {Script.LIVELY, Script.FULL}) {
            for (int n : new int[] {0, 1, 59, 60}) {
                WellLendsDepth x = Script.well(lines);
                WellLendsDepth gone = Script.well(lines);
                int sent = -sentOfAll(gone);
                gone.pass(n);
                sent += sentOfAll(gone);
                due("DEPTH on " + n, x.on(n, 0), gone.told(1));
                due("SENT on " + n, x.on(n, 1), sent);
                due("OWES on " + n, x.on(n, 2), gone.told(5));
                for (int b = 0; b < x.count(0); b++) {
                    due("HAS of " + b + " on " + n, x.on(n, 10 + b), gone.of(b, 4));
                    due("OWES of " + b + " on " + n, x.on(n, 20 + b), gone.of(b, 6));
                }
            }
        }
    }

    private static int sentOfAll(WellLendsDepth x) {
        int sum = 0;
        for (int b = 0; b < x.count(0); b++) {
            sum += x.of(b, 7);
        }
        return sum;
    }

    private static void changesNothing() {
        says(13, "All that follows is asked, goes on from how all is (DAYS, SENT also beyond 9999), and changes nothing.");
        for (int n : new int[] {0, 1, 60}) {
            for (int what : new int[] {0, 1, 2, 10, 13, 20, 23}) {
                asks("on(" + n + ", " + what + ")", x -> x.on(n, what));
            }
            asks("lowest(" + n + ", 0)", x -> x.lowest(n, 0));
            asks("lowest(" + n + ", 1)", x -> x.lowest(n, 1));
            asks("odds(" + n + ", 0)", x -> x.odds(n, 0));
            asks("mean(" + n + ", 1)", x -> x.mean(n, 1));
        }
        asks("first()", WellLendsDepth::first);
        for (int what = 0; what <= 3; what++) {
            int one = what;
            asks("best(" + what + ")", x -> x.best(one));
        }
        asks("seldom(0)", x -> x.seldom(0));
        asks("more(12)", x -> x.more(12));
        asks("wanted(0, 1)", x -> x.wanted(0, 1));
        asks("can(0, 1)", x -> x.can(0, 1));
        asks("gone(0)", x -> x.gone(0));
        asks("gone(1)", x -> x.gone(1));
        asks("looked()", WellLendsDepth::looked);
        says(28, "what is asked changes nothing.");
        asks("judge(0, 0)", x -> x.judge(0, 0));
        asks("judge(0, 1)", x -> x.judge(0, 1));
        asks("trace(0)", x -> x.trace(0));
        asks("taken(0, 0)", x -> x.taken(0, 0));
        asks("count(6)", x -> x.count(6));
        asks("read(0, 1)", x -> x.read(0, 1));
        asks("shift(0, 0, 0, 0, 4)", x -> x.shift(0, 0, 0, 0, 4));
    }

    private static void lowest() {
        says(14, "LOWEST: what 0 DEPTH, 1 behind how many. NONE; BAD: n.");
        for (int what : new int[] {-1, 2, LEAST, MOST}) {
            refusedAlways("what " + what, NONE, x -> x.lowest(0, what));
            refusedAlways("what " + what + " and n", NONE, x -> x.lowest(61, what));
        }
        for (int n : new int[] {-1, 61, LEAST, MOST}) {
            refusedAlways("n " + n, BAD, x -> x.lowest(n, 0));
            refusedAlways("behind how many of " + n, BAD, x -> x.lowest(n, 1));
        }
    }

    private static void lowestFirst() {
        says(14, "LOWEST of n DAYS (0 .. 60): the least DEPTH behind 0, 1 .. n; behind how many first.");
        WellLendsDepth none = new WellLendsDepth();
        due("alike behind all", none.lowest(60, 1), 0);
        due("DEPTH", none.lowest(60, 0), 100);
        WellLendsDepth x = Script.well("borrower 0 0 30 20");
        due("no DAY", x.lowest(0, 0), 100);
        due("behind none", x.lowest(0, 1), 0);
        due("one DAY", x.lowest(1, 0), 70);
        due("behind 1, 2, 3, 21 ..: 1 is first", x.lowest(60, 1), 1);
        WellLendsDepth up = Script.in("spring 1");
        due("least now", up.lowest(60, 0), 100);
        due("behind 0", up.lowest(60, 1), 0);
        // LOSING takes 10 on DAYS 20, 40, 60 and brings 9 back: 90, 89, 88
        WellLendsDepth y = Script.well("borrower 3 0 10 20", "pass 1", "call 0");
        due("behind 19", y.lowest(19, 0), 100);
        due("behind 0 of 19", y.lowest(19, 1), 0);
        due("behind 20", y.lowest(20, 0), 90);
        due("that is the last", y.lowest(20, 1), 20);
        due("behind 59", y.lowest(59, 0), 89);
        due("that is 40", y.lowest(59, 1), 40);
        due("behind 60", y.lowest(60, 0), 88);
        due("that is 60", y.lowest(60, 1), 60);
    }

    private static void first() {
        says(15, "FIRST: the number (0 is the next one; 0 .. 60) of the first DAY from now on on which somebody is SENT away (-5: none).");
        due("of none", new WellLendsDepth().first(), NOBODY);
        // LOSING takes 10 on DAYS 0, 20, 40 and brings 9 back: on DAY 60 there is 3 less
        WellLendsDepth x = Script.well("borrower 3 0 10 20", "depth 22");
        due("DAY 60 is number 60", x.first(), 60);
        due("60 DAYS are those ahead of it", x.on(60, 1), 0);
        x.depth(23);
        due("beyond 60", x.first(), NOBODY);
        x.depth(19);
        due("the next one", x.first(), 0);
        x.depth(20);
        due("number 20", x.first(), 20);
        x.depth(22);
        x.pass(1);
        due("number 59 a DAY behind", x.first(), 59);
        says(15, "FIRST; -5.");
        WellLendsDepth y = Script.well("borrower 0 0 91 20");
        due("too much", y.first(), 0);
        y.set(0, 0, 90);
        due("just enough", y.first(), NOBODY);
        due("nothing went", y.told(0), 0);
    }
}
