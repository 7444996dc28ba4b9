/** Promises 1, 2, 4 to 8, 11: a new object, borrowers come and are changed, the line, the depth. */
final class WellEdges extends Edge {
    private WellEdges() {
    }

    static void all() {
        newObject();
        wholeUse();
        borrowersCome();
        borrowersRefused();
        atFirst();
        set();
        row();
        depth();
        change();
        call();
        told();
    }

    private static void newObject() {
        says(1, "No BORROWERS, no COUNTRY.");
        WellLendsDepth x = new WellLendsDepth();
        due("count(0)", x.count(0), 0);
        due("count(1)", x.count(1), 0);
        still("of nobody", NONE, Script.FRESH, w -> w.of(0, 0));
        still("set of nobody", NONE, Script.FRESH, w -> w.set(0, 0, 1));
        still("row of nobody", NONE, Script.FRESH, w -> w.row(0, 0, 0));
        still("change of nobody", NONE, Script.FRESH, w -> w.change(0, 1));
        still("call of nobody", NONE, Script.FRESH, w -> w.call(0));
        still("seldom of nobody", NONE, Script.FRESH, w -> w.seldom(0));
        still("wanted of nobody", NONE, Script.FRESH, w -> w.wanted(0, 0));
        still("can of nobody", NONE, Script.FRESH, w -> w.can(0, 0));
        still("book of nobody", NONE, Script.FRESH, w -> w.book(0, 0));
        still("taken of nobody", NOTHING, Script.FRESH, w -> w.taken(0, 0));
        still("act of nobody", 0, Script.FRESH, w -> w.act(0, 0, 1));
        says(1, "without one there are no CLAUSES.");
        due("MARK", x.told(2), 10);
        due("SPRING", x.told(3), 0);
        due("FINE", x.told(4), 0);
        says(1, "THE WELL: its DEPTH (0 .. 9999 fathoms; 100 at first).");
        due("told(1)", x.told(1), 100);
        says(1, "DAY: 0 at first.");
        due("told(0)", x.told(0), 0);
    }

    private static void wholeUse() {
        says(1, "An object is used for at most 512 calls after it has been made");
        WellLendsDepth x = new WellLendsDepth();
        for (int i = 1; i <= 510; i++) {
            x.depth(i);
        }
        x.borrower(BORROWER, 0, 1, 1);
        due("the 512th call", x.pass(1), 509);
    }

    private static void borrowersCome() {
        says(2, "A BORROWER, the last in THE LINE: its number.");
        WellLendsDepth x = new WellLendsDepth();
        x.borrower(BORROWER, 0, 1, 1);
        x.borrower(LATE, 0, 1, 1);
        x.change(0, 1);
        due("one behind a change", x.borrower(GREEDY, 0, 1, 1), 2);
        due("place 2", x.told(12), 2);
        due("place 0 is as it was", x.told(10), 1);
        says(2, "BORROWERS 0 .. 5, as they come, are of KINDS:");
        WellLendsDepth y = new WellLendsDepth();
        for (int i = 0; i < 6; i++) {
            due("place of number " + i + " ahead of it", y.told(10 + i), NONE);
            due("number " + i, y.borrower(i, i, i + 1, i + 1), i);
            due("its KIND", y.of(i, 0), i);
            due("its place", y.told(10 + i), i);
            due("the next one", y.of(i + 1, 0), NONE);
        }
        says(2, "0 BORROWER; 1 LATE, 2 GREEDY, 3 LOSING under BORROWER; 4 STRAY under LATE; 5 TAKING under GREEDY; 6 TOLD under LOSING;");
        for (int kind = 0; kind <= 6; kind++) {
            WellLendsDepth z = new WellLendsDepth();
            due("KIND " + kind, z.borrower(kind, 0, 1, 1), 0);
            due("of KIND " + kind, z.of(0, 0), kind);
        }
        says(2, "with a number v (0 .. 9), WANTS (1 .. 99), EVERY (1 .. 20),");
        WellLendsDepth z = new WellLendsDepth();
        due("the least of all", z.borrower(0, 0, 1, 1), 0);
        due("the greatest of all", z.borrower(6, 9, 99, 20), 1);
        int[] least = {0, 0, 1, 1};
        int[] greatest = {6, 9, 99, 20};
        for (int what = 0; what < 4; what++) {
            due("the least of " + what, z.of(0, what), least[what]);
            due("the greatest of " + what, z.of(1, what), greatest[what]);
        }
    }

    private static void borrowersRefused() {
        says(2, "NONE: kind; BAD: v, wants, every; FULL: 6.");
        for (int kind : new int[] {-1, 7, LEAST, MOST}) {
            refusedAlways("KIND " + kind, NONE, x -> x.borrower(kind, 0, 1, 1));
        }
        for (int v : new int[] {-1, 10, LEAST, MOST}) {
            refusedAlways("v " + v, BAD, x -> x.borrower(0, v, 1, 1));
        }
        for (int wants : new int[] {0, -1, 100, LEAST, MOST}) {
            refusedAlways("WANTS " + wants, BAD, x -> x.borrower(0, 0, wants, 1));
        }
        for (int every : new int[] {0, -1, 21, LEAST, MOST}) {
            refusedAlways("EVERY " + every, BAD, x -> x.borrower(0, 0, 1, every));
        }
        refusedAlways("all is wrong", NONE, x -> x.borrower(7, 10, 0, 0));
        still("a seventh", FULL, Script.FULL, x -> x.borrower(0, 0, 1, 1));
        still("a seventh, the greatest", FULL, Script.FULL, x -> x.borrower(6, 9, 99, 20));
        WellLendsDepth x = new WellLendsDepth();
        for (int i = 0; i < 6; i++) {
            due("of six", x.borrower(0, 0, 1, 1), i);
        }
        due("the first that finds it full", x.borrower(0, 0, 1, 1), FULL);
        due("there are six", x.count(0), 6);
    }

    private static void atFirst() {
        WellLendsDepth x = Script.well("borrower 6 9 99 1");
        says(2, "HAS (0 .. 999; 0 at first),");
        due("HAS at first", x.of(0, 4), 0);
        says(2, "LEFT (for how many DAYS more it keeps that: 0 .. 99; 0 at first),");
        due("LEFT at first", x.of(0, 5), 0);
        says(2, "OWES (0 .. 99999; 0 at first),");
        due("OWES at first", x.of(0, 6), 0);
        says(2, "SENT (how many times it was sent away: 0 .. 9999; 0 at first).");
        due("SENT at first", x.of(0, 7), 0);
        says(2, "and its ROW (four numbers 0 .. 9; 0 at first)");
        for (int part = 0; part < 4; part++) {
            due("ROW at first " + part, x.row(0, part, 0), 0);
        }
        says(2, "THE LINE: all of them, one behind the other, in which they are looked at (as they come, at first).");
        WellLendsDepth y = Script.well("depth 20", "borrower 0 0 10 1", "borrower 0 0 10 1", "pass 1");
        due("the first that came HAS it", y.of(0, 4), 10);
        due("the second finds too little", y.of(1, 7), 1);
    }

    private static void set() {
        says(4, "Of a BORROWER what 0 WANTS, 1 EVERY becomes n: what it was. NONE; BAD.");
        WellLendsDepth x = Script.well("borrower 0 0 30 4");
        due("WANTS 99", x.set(0, 0, 99), 30);
        due("WANTS 1", x.set(0, 0, 1), 99);
        due("it is 1", x.of(0, 2), 1);
        due("EVERY 20", x.set(0, 1, 20), 4);
        due("EVERY 1", x.set(0, 1, 1), 20);
        due("it is 1", x.of(0, 3), 1);
        for (int b : new int[] {-1, 6, LEAST, MOST}) {
            refusedAlways("BORROWER " + b, NONE, w -> w.set(b, 0, 1));
        }
        still("the first that has not come", NONE, Script.LIVELY, w -> w.set(4, 0, 1));
        for (int what : new int[] {-1, 2, LEAST, MOST}) {
            refused("what " + what, NONE, w -> w.set(0, what, 1));
        }
        for (int n : new int[] {0, -1, 100, LEAST, MOST}) {
            refused("WANTS " + n, BAD, w -> w.set(0, 0, n));
        }
        for (int n : new int[] {0, -1, 21, 99, LEAST, MOST}) {
            refused("EVERY " + n, BAD, w -> w.set(0, 1, n));
        }
        refusedAlways("BORROWER and n", NONE, w -> w.set(6, 0, 0));
        refused("what and n", NONE, w -> w.set(0, 2, 0));
    }

    private static void row() {
        says(5, "The ROW of a TOLD one becomes n (0 .. 9) for DAYS modulo 4 being part: what it was. NONE: borrower, part; BAD; STATE: another KIND.");
        WellLendsDepth x = Script.well("borrower 6 0 1 1", "depth 0");
        for (int part = 0; part < 4; part++) {
            due("9 for part " + part, x.row(0, part, 9), 0);
            due("part + 1", x.row(0, part, part + 1), 9);
        }
        // DAYS 3 and 4: the ROW begins again
        for (int day = 0; day <= 8; day++) {
            due("ASKS on DAY " + day, x.of(0, 9), 2 + day % 4);
            x.pass(1);
        }
        WellLendsDepth six = new WellLendsDepth();
        for (int b = 0; b < 6; b++) {
            six.borrower(TOLD, 0, 1, 1);
            for (int part = 0; part < 4; part++) {
                due("ROW of " + b + " at first", six.row(b, part, (b + part * 2) % 10), 0);
            }
        }
        for (int b = 0; b < 6; b++) {
            due("ASKS of " + b, six.of(b, 9), 1 + b);
            for (int part = 0; part < 4; part++) {
                due("each has its own", six.row(b, part, 0), (b + part * 2) % 10);
            }
        }
        due("0 again", x.row(0, 3, 0), 4);
        due("is 0", x.row(0, 3, 0), 0);
        for (int b : new int[] {-1, 6, LEAST, MOST}) {
            refusedAlways("BORROWER " + b, NONE, w -> w.row(b, 0, 0));
        }
        still("the first that has not come", NONE, Script.LIVELY, w -> w.row(4, 0, 0));
        for (int part : new int[] {-1, 4, LEAST, MOST}) {
            still("part " + part, NONE, Script.LIVELY, w -> w.row(0, part, 0));
            still("part " + part + " of another KIND", NONE, Script.LIVELY, w -> w.row(1, part, 0));
        }
        for (int n : new int[] {-1, 10, LEAST, MOST}) {
            still("n " + n, BAD, Script.LIVELY, w -> w.row(0, 0, n));
            still("n " + n + " of another KIND", BAD, Script.LIVELY, w -> w.row(1, 0, n));
        }
        refusedAlways("all is wrong", NONE, w -> w.row(6, 4, 10));
        still("part and n", NONE, Script.LIVELY, w -> w.row(1, 4, 10));
        for (int b = 0; b < 5; b++) {
            int other = b;
            still("KIND " + (b + 1), STATE, Script.FULL, w -> w.row(other, 3, 9));
        }
        still("KIND 0", STATE, Script.LIVELY, w -> w.row(3, 0, 0));
    }

    private static void depth() {
        says(6, "DEPTH becomes n: what it was. BAD.");
        WellLendsDepth x = new WellLendsDepth();
        due("0", x.depth(0), 100);
        due("9999", x.depth(9999), 0);
        due("is 9999", x.told(1), 9999);
        for (int n : new int[] {-1, 10000, LEAST, MOST}) {
            refusedAlways("DEPTH " + n, BAD, w -> w.depth(n));
        }
        says(6, "its DEPTH (0 .. 9999 fathoms; 100 at first)");
        due("is 9999 still", x.depth(1), 9999);
    }

    private static void change() {
        says(7, "Two places of THE LINE (0 .. how many less 1): their BORROWERS change; who was at the first. NONE; BAD: one is both.");
        WellLendsDepth x = new WellLendsDepth();
        due("of none", x.change(0, 0), NONE);
        x.borrower(BORROWER, 0, 1, 1);
        due("of one, both", x.change(0, 0), BAD);
        due("of one, the next", x.change(0, 1), NONE);
        due("of one, from the next", x.change(1, 0), NONE);
        x.borrower(LATE, 0, 1, 1);
        due("of two", x.change(1, 0), 1);
        due("the other is there", x.told(11), 0);
        due("of two, beyond", x.change(1, 2), NONE);
        WellLendsDepth y = Script.well(Script.FULL);
        due("0 and 5 of six", y.change(0, 5), 0);
        due("place 0", y.told(10), 5);
        due("place 5", y.told(15), 0);
        due("the last place of the first", y.change(5, 4), 0);
        for (int place : new int[] {-1, 6, LEAST, MOST}) {
            refusedAlways("place " + place, NONE, w -> w.change(place, 0));
            refusedAlways("other place " + place, NONE, w -> w.change(0, place));
            refusedAlways("both " + place, NONE, w -> w.change(place, place));
        }
        still("places 3 and 4 of four", NONE, Script.LIVELY, w -> w.change(3, 4));
        refused("one is both", BAD, w -> w.change(0, 0));
        still("one is both, the last", BAD, Script.FULL, w -> w.change(5, 5));
    }

    private static void call() {
        says(8, "One is CALLED in: what it HAD. NONE; STATE: it HAS nothing.");
        String[] one = {"borrower 4 9 30 1"};
        still("it HAS nothing", STATE, one, w -> w.call(0));
        WellLendsDepth x = Script.well("borrower 4 9 30 1", "pass 1");
        due("what it HAD", x.call(0), 30);
        due("nothing again", x.call(0), STATE);
        due("DEPTH is not more again", x.told(1), 100);
        for (int b : new int[] {-1, 6, LEAST, MOST}) {
            refusedAlways("BORROWER " + b, NONE, w -> w.call(b));
        }
        still("the first that has not come", NONE, Script.LIVELY, w -> w.call(4));
        says(8, "One is CALLED in: DEPTH is what it HAS more (9999 at most), it HAS 0, its LEFT is 0.");
        x.pass(1);
        due("LEFT", x.of(0, 5), 12);
        x.depth(9969);
        due("called in", x.call(0), 30);
        due("DEPTH of just so much", x.told(1), 9999);
        due("HAS", x.of(0, 4), 0);
        due("LEFT is 0", x.of(0, 5), 0);
        x.depth(100);
        x.pass(1);
        x.depth(9970);
        due("HAD, one too much", x.call(0), 30);
        due("DEPTH is 9999 at most", x.told(1), 9999);
        x.pass(1);
        x.depth(9999);
        x.call(0);
        due("DEPTH of 9999 stays", x.told(1), 9999);
    }

    private static void told() {
        says(11, "What 0 DAY, 1 DEPTH, 2 MARK, 3 SPRING, 4 FINE, 5 OWES of all, together, 10 and k who is at place k of THE LINE. NONE.");
        for (int what : new int[] {-1, 6, 7, 8, 9, 16, LEAST, MOST, LEAST + 10}) {
            refusedAlways("what " + what, NONE, w -> w.told(what));
        }
        still("place 0 of none", NONE, Script.FRESH, w -> w.told(10));
        still("place 3 of four", Script.well(Script.LIVELY).told(13), Script.LIVELY, w -> w.told(13));
        still("place 4 of four", NONE, Script.LIVELY, w -> w.told(14));
        still("place 5 of six", 5, Script.FULL, w -> w.told(15));
        for (int what = 0; what <= 5; what++) {
            int one = what;
            asks("told(" + what + ")", w -> w.told(one));
        }
        due("OWES of none", new WellLendsDepth().told(5), 0);
    }
}
