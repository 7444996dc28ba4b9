import java.util.Arrays;

/** Promises 31 to 33: acts, their trace, and for what a borrower is taken. */
final class ActEdges extends Edge {
    private ActEdges() {
    }

    static void all() {
        bodiesOfBorrower();
        bodiesOfLate();
        bodiesOfGreedy();
        bodiesOfLosing();
        bodiesOfStray();
        bodiesOfTaking();
        bodiesOfTold();
        wrapping();
        refused();
        trace();
        taken();
    }

    /** One of a kind that has the number 2 and v 4, behind two others. */
    private static WellLendsDepth third(int kind) {
        return Script.well("borrower 1 9 1 1", "borrower 2 9 1 1", "borrower " + kind + " 4 1 1");
    }

    private static void does(int kind, int act, int x, int answer, int... bodies) {
        WellLendsDepth well = third(kind);
        String what = "act " + act + " of KIND " + kind + " with " + x;
        due(what, well.act(2, act, x), answer);
        due(what + ": how many bodies", well.count(6), bodies.length);
        for (int i = 0; i < bodies.length; i++) {
            due(what + ": body " + i, well.trace(i), bodies[i]);
        }
        due(what + ": behind the last", well.trace(bodies.length), NONE);
    }

    private static void bodiesOfBorrower() {
        says(31, "ACTS of a BORROWER with x (wrapping): 0 sinks, 1 borrows, 2 tells; i its number.");
        says(31, "BODIES: BORROWER: 10 sinks: x + i. 11 borrows: sinks(x) - v. 12 tells: borrows(x) * 2.");
        does(BORROWER, 0, 7, 9, 10);
        does(BORROWER, 1, 7, 5, 11, 10);
        does(BORROWER, 2, 7, 10, 12, 11, 10);
        does(BORROWER, 0, 0, 2, 10);
        does(BORROWER, 2, -3, -10, 12, 11, 10);
    }

    private static void bodiesOfLate() {
        says(31, "LATE: 20 borrows: super.borrows(x) ^ 6.");
        does(LATE, 0, 7, 9, 10);
        does(LATE, 1, 7, 5 ^ 6, 20, 11, 10);
        does(LATE, 2, 7, (5 ^ 6) * 2, 12, 20, 11, 10);
        does(LATE, 1, 0, -2 ^ 6, 20, 11, 10);
    }

    private static void bodiesOfGreedy() {
        says(31, "GREEDY: 30 sinks: super.sinks(x * 3).");
        does(GREEDY, 0, 7, 23, 30, 10);
        does(GREEDY, 1, 7, 19, 11, 30, 10);
        does(GREEDY, 2, 7, 38, 12, 11, 30, 10);
    }

    private static void bodiesOfLosing() {
        says(31, "LOSING: 40 tells: super.tells(x) + borrows(1).");
        does(LOSING, 0, 7, 9, 10);
        does(LOSING, 1, 7, 5, 11, 10);
        does(LOSING, 2, 7, 10 - 1, 40, 12, 11, 10, 11, 10);
    }

    private static void bodiesOfStray() {
        says(31, "STRAY: 50 sinks: -super.sinks(x). 51 borrows: super.borrows(x + 1).");
        does(STRAY, 0, 7, -9, 50, 10);
        does(STRAY, 1, 7, -14 ^ 6, 51, 20, 11, 50, 10);
        does(STRAY, 2, 7, (-14 ^ 6) * 2, 12, 51, 20, 11, 50, 10);
    }

    private static void bodiesOfTaking() {
        says(31, "TAKING: 60 tells: super.tells(x - i).");
        does(TAKING, 0, 7, 23, 30, 10);
        does(TAKING, 1, 7, 19, 11, 30, 10);
        does(TAKING, 2, 7, 26, 60, 12, 11, 30, 10);
    }

    private static void bodiesOfTold() {
        says(31, "TOLD: 70 borrows: super.borrows(x) + super.sinks(2). 71 sinks: super.sinks(x) ^ v.");
        does(TOLD, 0, 7, 9 ^ 4, 71, 10);
        does(TOLD, 1, 7, (9 ^ 4) - 4 + 4, 70, 11, 71, 10, 10);
        does(TOLD, 2, 7, ((9 ^ 4) - 4 + 4) * 2 + ((3 ^ 4) - 4 + 4), 40, 12, 70, 11, 71, 10, 10, 70, 11, 71, 10, 10);
        says(31, "sinks(..) and so on: the body of its KIND, or, if that has none, of the next KIND above that has one; super.sinks(..): so from the KIND above the body's on; all that stands in a body is done from the left on.");
        does(TAKING, 0, 1, 5, 30, 10);
        does(STRAY, 1, 0, (-3 - 4) ^ 6, 51, 20, 11, 50, 10);
    }

    private static void wrapping() {
        says(31, "with x (wrapping)");
        does(BORROWER, 0, MOST, LEAST + 1, 10);
        does(BORROWER, 0, MOST - 2, MOST, 10);
        does(BORROWER, 0, LEAST, LEAST + 2, 10);
        does(BORROWER, 1, LEAST, MOST - 1, 11, 10);
        does(BORROWER, 1, LEAST + 2, LEAST, 11, 10);
        does(BORROWER, 2, (1 << 30) + 1, MOST - 1, 12, 11, 10);
        does(BORROWER, 2, (1 << 30) + 2, LEAST, 12, 11, 10);
        does(GREEDY, 0, MOST, MOST, 30, 10);
        does(GREEDY, 0, LEAST, LEAST + 2, 30, 10);
        does(STRAY, 0, LEAST - 2, LEAST, 50, 10);
        does(STRAY, 1, MOST, (-(LEAST + 2) - 4) ^ 6, 51, 20, 11, 50, 10);
        does(TAKING, 2, LEAST, ((LEAST - 2) * 3 + 2 - 4) * 2, 60, 12, 11, 30, 10);
    }

    private static void refused() {
        says(31, "An ACT (0 sinks, 1 borrows, 2 tells) of a BORROWER with x. 0, and no TRACE then: no such BORROWER, act.");
        int[][] wrong = {{-1, 0}, {3, 0}, {6, 0}, {LEAST, 0}, {MOST, 0}, {0, -1}, {0, 3}, {0, LEAST}, {0, MOST}, {9, 9}};
        for (int[] one : wrong) {
            WellLendsDepth x = third(TOLD);
            x.act(2, 2, 5);
            due("bodies ahead", x.count(6), 12);
            due("act " + one[1] + " of " + one[0], x.act(one[0], one[1], 5), 0);
            due("no TRACE", x.trace(0), NONE);
            due("no TRACE at the end of the one ahead", x.trace(11), NONE);
            due("no bodies", x.count(6), 0);
            due("DEPTH", x.told(1), 100);
        }
        due("of nobody", new WellLendsDepth().act(0, 0, 1), 0);
        for (int b = 0; b < 6; b++) {
            int one = b;
            still("an act of " + b + " changes nothing but THE TRACE", Script.well(Script.FULL).act(b, 2, 1),
                with(Script.FULL, "act " + b + " 2 1"), x -> x.act(one, 2, 1));
        }
    }

    private static String[] with(String[] lines, String more) {
        String[] all = Arrays.copyOf(lines, lines.length + 1);
        all[lines.length] = more;
        return all;
    }

    private static void trace() {
        says(32, "THE TRACE's i-th body. NONE.");
        for (int i : new int[] {-1, 12, 19, 20, LEAST, MOST}) {
            refusedAlways("i " + i, NONE, x -> x.trace(i));
        }
        still("none yet", NONE, Script.FRESH, x -> x.trace(0));
        WellLendsDepth x = Script.well("borrower 6 0 1 1", "borrower 0 0 1 1", "act 0 2 1");
        due("the first", x.trace(0), 40);
        due("the last", x.trace(11), 10);
        due("behind the last", x.trace(12), NONE);
        x.act(1, 0, 1);
        due("the latest act's", x.trace(0), 10);
        due("of the one ahead nothing is left", x.trace(1), NONE);
        says(32, "THE TRACE: the numbers of the bodies that ran in the latest act(), as they began; the first 20 are kept.");
        // no act of any KIND runs more than TOLD's 12 bodies, so 20 is never full
        for (int kind = 0; kind <= 6; kind++) {
            for (int act = 0; act <= 2; act++) {
                WellLendsDepth y = third(kind);
                y.act(2, act, 1);
                int ran = y.count(6);
                due("12 at most", ran >= 1 && ran <= 12 ? 1 : 0, 1);
                due("the last of all that ran", y.trace(ran - 1), 10);
                due("behind it", y.trace(ran), NONE);
            }
        }
    }

    private static void taken() {
        says(33, "A BORROWER taken for one of KIND k (0 .. 6), or one under that: its KIND. BAD: k; NOTHING: no such BORROWER; CAST.");
        for (int k : new int[] {-1, 7, LEAST, MOST}) {
            refusedAlways("KIND " + k, BAD, x -> x.taken(0, k));
            refusedAlways("KIND " + k + " of nobody", BAD, x -> x.taken(6, k));
        }
        for (int b : new int[] {-1, 6, LEAST, MOST}) {
            refusedAlways("BORROWER " + b, NOTHING, x -> x.taken(b, 0));
            refusedAlways("BORROWER " + b + " for TOLD", NOTHING, x -> x.taken(b, 6));
        }
        still("the first that has not come", NOTHING, Script.LIVELY, x -> x.taken(4, 0));
        says(33, "0 BORROWER; 1 LATE, 2 GREEDY, 3 LOSING under BORROWER; 4 STRAY under LATE; 5 TAKING under GREEDY; 6 TOLD under LOSING;");
        String[] under = {"0", "01", "02", "03", "014", "025", "036"};
        for (int kind = 0; kind <= 6; kind++) {
            String[] lines = {"borrower " + kind + " 0 1 1"};
            for (int k = 0; k <= 6; k++) {
                int one = k;
                still("KIND " + kind + " for " + k, under[kind].indexOf('0' + k) >= 0 ? kind : CAST, lines, x -> x.taken(0, one));
            }
        }
    }
}
