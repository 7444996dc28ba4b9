/** Promises 28, 35 to 38: judging, tapes. */
final class TapeEdges extends Edge {
    private static final int[] NO_TAPES = {-1, 6, LEAST, MOST};

    private TapeEdges() {
    }

    static void all() {
        judgeRefused();
        judged();
        judgedByNumber();
        judgedOfNone();
        tape();
        tapeBecomes();
        hostsRefusals();
        item();
        itemBits();
        read();
        shiftRefused();
        shiftBounds();
        shiftAsBefore();
    }

    private static void judgeRefused() {
        says(28, "JUDGED from place i of a TAPE on. NONE: tape; CAST: it is no row of ints.");
        for (int tape : NO_TAPES) {
            refusedAlways("TAPE " + tape, NONE, x -> x.judge(tape, 0));
            refusedAlways("TAPE " + tape + ", no place", NONE, x -> x.judge(tape, -1));
        }
        for (int tape = 1; tape <= 4; tape++) {
            int one = tape;
            still("bytes, longs, booleans, shorts: TAPE " + tape, CAST, Script.LIVELY, x -> x.judge(one, 0));
            still("TAPE " + tape + ", no place", CAST, Script.LIVELY, x -> x.judge(one, -1));
        }
        for (int sort : new int[] {0, 1, 3, 4}) {
            still("sort " + sort + " of nobody", CAST, new String[] {"tape 0 " + sort + " 6"}, x -> x.judge(0, 0));
            still("sort " + sort + ", empty", CAST, new String[] {"tape 5 " + sort + " 0"}, x -> x.judge(5, 0));
        }
    }

    private static void judged() {
        says(28, "What all HAVE told by a row of ints, from a place on, one by one, is JUDGED: the first that is otherwise; -5: none, or there is none to look at; 100 and how many were looked at, if the row ends ahead of that (or the place is below 0, or the TAPE holds nothing).");
        int[] wants = {20, 15, 12, 9, 7, 5};
        WellLendsDepth x = new WellLendsDepth();
        for (int n : wants) {
            x.borrower(BORROWER, 0, n, 1);
        }
        x.pass(1);
        x.tape(5, 2, 7);
        for (int i = 0; i < 6; i++) {
            x.item(5, i + 1, wants[i]);
        }
        due("all are so", x.judge(5, 1), NOBODY);
        due("a place ahead: the first is otherwise", x.judge(5, 0), 0);
        for (int place = 2; place <= 6; place++) {
            due("from place " + place, x.judge(5, place), 0);
        }
        for (int place : new int[] {7, 8, 60, MOST, -1, LEAST}) {
            due("no place " + place, x.judge(5, place), 100);
        }
        for (int size = 6; size >= 0; size--) {
            x.tape(5, 2, size + 1);
            for (int i = 0; i < size; i++) {
                x.item(5, i + 1, wants[i]);
            }
            due("of " + size + " that are so", x.judge(5, 1), size == 6 ? NOBODY : 100 + size);
        }
        x.tape(0, 2, 6);
        for (int wrong = 5; wrong >= 0; wrong--) {
            for (int i = 0; i < 6; i++) {
                x.item(0, i, wants[i] + (i >= wrong ? 1 : 0));
            }
            due("from " + wrong + " on otherwise", x.judge(0, 0), wrong);
        }
        x.tape(0, 2, 1);
        due("the one item is otherwise, ahead of the end", x.judge(0, 0), 0);
        due("holds nothing", x.judge(1, 0), 100);
        due("holds nothing, no place", x.judge(1, -1), 100);
        x.tape(0, 2, 0);
        due("a row of none", x.judge(0, 0), 100);
        x.tape(0, -1, 0);
        due("holds nothing any more", x.judge(0, 0), 100);
        x.tape(0, 2, 60);
        x.item(0, 59, 20);
        due("the last place of 60", x.judge(0, 59), 101);
        due("behind it", x.judge(0, 60), 100);
    }

    private static void judgedByNumber() {
        says(28, "BORROWERS 0 .. 5, as they come,");
        WellLendsDepth x = Script.well("borrower 0 0 20 20", "borrower 0 0 15 20", "borrower 0 0 12 20", "pass 1",
            "tape 0 2 3", "item 0 0 20", "item 0 1 15", "item 0 2 12");
        due("all are so", x.judge(0, 0), NOBODY);
        x.change(0, 2);
        due("whatever their places in THE LINE", x.judge(0, 0), NOBODY);
        x.call(2);
        due("the number of the BORROWER that is otherwise, not its place", x.judge(0, 0), 2);
        x.call(0);
        due("the least such number", x.judge(0, 0), 0);
    }

    private static void judgedOfNone() {
        WellLendsDepth x = new WellLendsDepth();
        due("nobody, holds nothing", x.judge(0, 0), NOBODY);
        x.tape(0, 2, 1);
        due("nobody", x.judge(0, 0), NOBODY);
        due("nobody, at the end", x.judge(0, 1), NOBODY);
        due("nobody, no place", x.judge(0, -1), NOBODY);
        x.borrower(BORROWER, 0, 1, 1);
        due("one that HAS 0", x.judge(0, 0), NOBODY);
        due("one, at the end", x.judge(0, 1), 100);
        due("one, no place", x.judge(0, -1), 100);
        x.borrower(BORROWER, 0, 1, 1);
        due("two, and one item", x.judge(0, 0), 101);
    }

    private static void tape() {
        says(35, "A TAPE becomes a row of n (0 .. 60) of a sort, all 0, or holds nothing (sort -1: n does not matter): 1. NONE: tape; BAD: sort, n above 60; SIZE.");
        for (int tape : NO_TAPES) {
            refusedAlways("TAPE " + tape, NONE, x -> x.tape(tape, 2, 1));
            refusedAlways("TAPE " + tape + ", all wrong", NONE, x -> x.tape(tape, 9, 99));
            refusedAlways("TAPE " + tape + " holds nothing", NONE, x -> x.tape(tape, -1, 0));
        }
        for (int sort : new int[] {-2, 5, LEAST, MOST}) {
            refusedAlways("sort " + sort, BAD, x -> x.tape(0, sort, 1));
            refusedAlways("sort " + sort + " below 0", BAD, x -> x.tape(0, sort, -1));
        }
        for (int sort = 0; sort <= 4; sort++) {
            int one = sort;
            for (int n : new int[] {61, MOST}) {
                refusedAlways("n " + n + " of sort " + sort, BAD, x -> x.tape(0, one, n));
            }
            for (int n : new int[] {-1, LEAST}) {
                refusedAlways("n " + n + " of sort " + sort, SIZE, x -> x.tape(0, one, n));
            }
        }
    }

    private static void tapeBecomes() {
        says(35, "TAPES 0 .. 5 hold nothing (at first), or a row of 0 bytes, 1 shorts, 2 ints, 3 longs, 4 booleans (items 0, 1).");
        WellLendsDepth x = new WellLendsDepth();
        for (int tape = 0; tape <= 5; tape++) {
            due("TAPE " + tape + " at first", x.item(tape, 0, 1), NOTHING);
        }
        for (int sort = 0; sort <= 4; sort++) {
            int tape = sort + 1;
            due("60 of sort " + sort, x.tape(tape, sort, 60), 1);
            due("the last place", x.item(tape, 59, 1), 1);
            due("no place 60", x.item(tape, 60, 1), PLACE);
            due("60 again", x.tape(tape, sort, 60), 1);
            due("all 0", x.read(tape, 59), 0);
            x.item(tape, 0, 1);
            due("none", x.tape(tape, sort, 0), 1);
            due("no place 0", x.item(tape, 0, 1), PLACE);
            due("one", x.tape(tape, sort, 1), 1);
            due("it is 0", x.read(tape, 0), 0);
        }
        for (int n : new int[] {0, -1, 61, LEAST, MOST}) {
            x.tape(0, 0, 3);
            due("nothing, whatever " + n, x.tape(0, -1, n), 1);
            due("nothing is there", x.item(0, 0, 1), NOTHING);
            due("nothing again", x.tape(0, -1, n), 1);
        }
    }

    private static void hostsRefusals() {
        says(35, "The host's refusals: NOTHING (-11): nothing is there; CAST (-12): another sort or KIND; PLACE (-13): no such place; SIZE (-14): a size below 0.");
        WellLendsDepth x = Script.well("borrower 0 0 1 1", "tape 1 3 1");
        due("NOTHING", x.item(0, 0, 0), -11);
        due("CAST of sorts", x.judge(1, 0), -12);
        due("CAST of KINDS", x.taken(0, 1), -12);
        due("PLACE", x.item(1, 1, 0), -13);
        due("SIZE", x.tape(1, 0, -1), -14);
        says(35, "Answers: NONE (-1) no such number; BAD (-2) a number is not as told; STATE (-3) as told; FULL (-4); the first that a call's words name. What is answered so changes nothing;");
        due("NONE", WellLendsDepth.NONE, -1);
        due("BAD", WellLendsDepth.BAD, -2);
        due("STATE", WellLendsDepth.STATE, -3);
        due("FULL", WellLendsDepth.FULL, -4);
    }

    private static void item() {
        says(36, "Item i of a TAPE becomes v (its lowest bits, as many as an item has; booleans: whether v is not 0): 1. NONE; NOTHING; PLACE.");
        for (int tape : NO_TAPES) {
            refusedAlways("TAPE " + tape, NONE, x -> x.item(tape, 0, 1));
            refusedAlways("TAPE " + tape + ", no place", NONE, x -> x.item(tape, -1, 1));
        }
        for (int place : new int[] {-1, 0, 60, LEAST, MOST}) {
            still("holds nothing, place " + place, NOTHING, Script.LIVELY, x -> x.item(5, place, 1));
        }
        int[] sizes = {4, 3, 2, 2, 1};
        for (int tape = 0; tape < 5; tape++) {
            int one = tape;
            for (int place : new int[] {-1, sizes[tape], LEAST, MOST}) {
                still("TAPE " + tape + ", place " + place, PLACE, Script.LIVELY, x -> x.item(one, place, 1));
            }
            WellLendsDepth x = Script.well(Script.LIVELY);
            due("the last place of " + tape, x.item(tape, sizes[tape] - 1, 1), 1);
            due("place 0 of " + tape, x.item(tape, 0, 1), 1);
        }
    }

    private static void kept(int sort, long v, long as) {
        WellLendsDepth x = Script.well("tape 0 " + sort + " 3");
        due("item of sort " + sort, x.item(0, 1, v), 1);
        due(v + " of sort " + sort, x.read(0, 1), as);
        due("ahead of it", x.read(0, 0), 0);
        due("behind it", x.read(0, 2), 0);
    }

    private static void itemBits() {
        long[] bits = {8, 16, 32};
        for (int sort = 0; sort < 3; sort++) {
            long most = (1L << bits[sort] - 1) - 1;
            kept(sort, most, most);
            kept(sort, most + 1, -most - 1);
            kept(sort, -most - 1, -most - 1);
            kept(sort, -most - 2, most);
            kept(sort, 2 * most + 1, -1);
            kept(sort, 2 * most + 2, 0);
            kept(sort, Long.MAX_VALUE, -1);
            kept(sort, Long.MIN_VALUE, 0);
        }
        kept(3, Long.MAX_VALUE, Long.MAX_VALUE);
        kept(3, Long.MIN_VALUE, Long.MIN_VALUE);
        for (int bit = 0; bit < 64; bit++) {
            kept(4, 1L << bit, 1);
        }
        kept(4, 0, 0);
        kept(4, -1, 1);
        kept(4, 2, 1);
    }

    private static void read() {
        says(37, "Item i of a TAPE. NO: no such TAPE, nothing there, no such place.");
        for (int tape : NO_TAPES) {
            refusedAlways("TAPE " + tape, NO, x -> x.read(tape, 0));
        }
        for (int place : new int[] {-1, 0, LEAST, MOST}) {
            still("holds nothing, place " + place, NO, Script.LIVELY, x -> x.read(5, place));
        }
        int[] sizes = {4, 3, 2, 2, 1};
        for (int tape = 0; tape < 5; tape++) {
            int one = tape;
            for (int place : new int[] {-1, sizes[tape], LEAST, MOST}) {
                still("TAPE " + tape + ", place " + place, NO, Script.LIVELY, x -> x.read(one, place));
            }
        }
        still("the last place", 15, Script.LIVELY, x -> x.read(0, 2));
        still("the least long is an item too", NO, new String[] {"tape 0 3 1", "item 0 0 " + NO}, x -> x.read(0, 0));
    }

    private static void shiftRefused() {
        says(38, "n items of a TAPE from i on come to another one (or the same) from j on, as they all were before: n. NONE: tapes; NOTHING; CAST: of unlike sorts; PLACE: n, i or j is below 0, or beyond either's end.");
        for (int tape : NO_TAPES) {
            refusedAlways("from TAPE " + tape, NONE, x -> x.shift(tape, 0, 0, 0, 0));
            refusedAlways("to TAPE " + tape, NONE, x -> x.shift(0, 0, tape, 0, 0));
            refusedAlways("to TAPE " + tape + " from nothing", NONE, x -> x.shift(3, -1, tape, -1, -1));
        }
        still("from nothing", NOTHING, Script.LIVELY, x -> x.shift(5, 0, 0, 0, 1));
        still("to nothing", NOTHING, Script.LIVELY, x -> x.shift(0, 0, 5, 0, 1));
        still("from nothing to nothing", NOTHING, Script.LIVELY, x -> x.shift(5, 0, 5, 0, 0));
        still("to nothing, no place", NOTHING, Script.LIVELY, x -> x.shift(0, -1, 5, -1, -1));
        still("of a new one", NOTHING, Script.FRESH, x -> x.shift(0, 0, 0, 0, 0));
        for (int one = 0; one < 5; one++) {
            for (int other = 0; other < 5; other++) {
                int from = one;
                int to = other;
                still(one + " to " + other, one == other ? 0 : CAST, Script.LIVELY, x -> x.shift(from, 0, to, 0, 0));
                still(one + " to " + other + ", no place", one == other ? PLACE : CAST, Script.LIVELY,
                    x -> x.shift(from, 9, to, 9, -1));
            }
        }
    }

    private static void shiftBounds() {
        String[] two = {"tape 0 2 4", "tape 1 2 3", "tape 2 2 0", "item 0 0 1", "item 0 1 2", "item 0 2 3", "item 0 3 4"};
        int[][] places = {{-1, 0, 1}, {0, -1, 1}, {0, 0, -1}, {4, 0, 1}, {3, 0, 2}, {0, 3, 1}, {0, 2, 2}, {0, 0, 4},
            {5, 0, 0}, {0, 4, 0}, {-1, 0, 0}, {0, -1, 0}, {LEAST, 0, 0}, {0, LEAST, 0}, {0, 0, LEAST}, {MOST, 0, 1},
            {0, MOST, 1}, {0, 0, MOST}, {MOST, MOST, MOST}, {1, 0, MOST}, {0, 1, MOST}, {LEAST, LEAST, LEAST},
            {MOST, 0, LEAST}, {2, -2, 2}, {-2, 2, 2}, {2, 2, -2}};
        for (int[] one : places) {
            still("from " + one[0] + " to " + one[1] + " so many as " + one[2], PLACE, two,
                x -> x.shift(0, one[0], 1, one[1], one[2]));
        }
        still("none at either's end", 0, two, x -> x.shift(0, 4, 1, 3, 0));
        still("none of none", 0, two, x -> x.shift(2, 0, 2, 0, 0));
        still("one of none", PLACE, two, x -> x.shift(2, 0, 0, 0, 1));
        still("one to none", PLACE, two, x -> x.shift(0, 0, 2, 0, 1));
        WellLendsDepth x = Script.well(two);
        due("all of the other", x.shift(0, 0, 1, 0, 3), 3);
        due("the last of it", x.read(1, 2), 3);
        due("the last to the last", x.shift(0, 3, 1, 2, 1), 1);
        due("is the last", x.read(1, 2), 4);
        due("the one ahead stays", x.read(1, 1), 2);
    }

    private static void shiftAsBefore() {
        for (int sort = 0; sort <= 4; sort++) {
            for (int from = 0; from <= 6; from++) {
                for (int to = 0; to <= 6; to++) {
                    int n = 6 - Math.max(from, to);
                    WellLendsDepth x = Script.well("tape 3 " + sort + " 6");
                    long[] as = new long[6];
                    for (int i = 0; i < 6; i++) {
                        x.item(3, i, sort == 4 ? i % 2 : i + 1);
                        as[i] = x.read(3, i);
                    }
                    due("from " + from + " to " + to, x.shift(3, from, 3, to, n), n);
                    due("one more", x.shift(3, from, 3, to, n + 1), PLACE);
                    for (int i = 0; i < 6; i++) {
                        due("item " + i, x.read(3, i), i >= to && i < to + n ? as[from + i - to] : as[i]);
                    }
                }
            }
        }
    }
}
