/** Promises 24 to 27: years and books. */
final class YearEdges extends Edge {
    private YearEdges() {
    }

    static void all() {
        year();
        yearFull();
        gone();
        goneAtMost();
        book();
        bookFull();
        looked();
    }

    private static void year() {
        says(24, "What goes comes to the YEAR: how many there are (what -1: it is empty then, 0, whatever the other is). NONE: what (0 .. 2), borrower (by 1); FULL: 10.");
        for (int what : new int[] {-2, 3, LEAST, MOST}) {
            refusedAlways("what " + what, NONE, x -> x.year(what, 0));
        }
        for (int b : new int[] {-1, 6, LEAST, MOST}) {
            refusedAlways("BORROWER " + b, NONE, x -> x.year(1, b));
            WellLendsDepth x = Script.well("borrower 0 0 1 1");
            due("a DAY, whoever " + b, x.year(0, b), 1);
            due("deeper, whoever " + b, x.year(2, b), 2);
            due("empty, whoever " + b, x.year(-1, b), 0);
            due("count(3)", x.count(3), 0);
            due("empty again", x.year(-1, b), 0);
        }
        still("the first that has not come", NONE, Script.LIVELY, x -> x.year(1, 4));
        still("nobody", NONE, Script.FRESH, x -> x.year(1, 0));
        WellLendsDepth x = Script.well(Script.LIVELY);
        due("the last that has come", x.year(1, 3), x.count(3));
    }

    private static void yearFull() {
        says(24, "A YEAR told by hand: what goes (0 a DAY, 1 one is CALLED in, 2 DEPTH is 10 more (9999 at most); 10 rows at most): GONE: DEPTH; SENT of all more.");
        WellLendsDepth x = Script.well("borrower 0 0 1 1");
        for (int i = 1; i <= 10; i++) {
            due("row " + i, x.year(i % 3, 0), i);
            due("count(3)", x.count(3), i);
        }
        for (int what = 0; what <= 2; what++) {
            int one = what;
            due("an eleventh of " + what, x.year(what, 0), FULL);
            still("an eleventh of " + what, FULL, Script.FULL, w -> w.year(one, 0));
        }
        due("there are 10", x.count(3), 10);
        due("empty", x.year(-1, 0), 0);
        due("and one again", x.year(0, 0), 1);
    }

    private static void gone() {
        says(25, "GONE: what 0 DEPTH, 1 SENT more. NONE.");
        for (int what : new int[] {-1, 2, LEAST, MOST}) {
            refusedAlways("what " + what, NONE, x -> x.gone(what));
        }
        WellLendsDepth x = Script.well("borrower 0 0 60 1", "borrower 0 0 60 1");
        due("no row", x.gone(0), 100);
        due("nobody", x.gone(1), 0);
        for (int i = 1; i <= 10; i++) {
            x.year(0, 0);
            due("DEPTH of " + i + " DAYS", x.gone(0), x.on(i, 0));
            due("SENT of " + i + " DAYS", x.gone(1), x.on(i, 1));
        }
        WellLendsDepth six = new WellLendsDepth();
        for (int b = 0; b < 6; b++) {
            six.borrower(BORROWER, 0, b + 1, 1);
        }
        six.pass(1);
        for (int b = 0; b < 6; b++) {
            six.year(-1, 0);
            six.year(1, b);
            due("CALLED in is " + b, six.gone(0), 79 + b + 1);
            six.year(1, 5);
            due("and the last", six.gone(0), b == 5 ? 85 : 79 + b + 1 + 6);
        }
        x.year(-1, 0);
        x.year(1, 0);
        due("one that HAS nothing", x.gone(0), 100);
        x.year(0, 0);
        x.year(1, 0);
        x.year(1, 0);
        due("CALLED in twice is CALLED in", x.gone(0), 100);
        x.year(0, 0);
        due("comes again", x.gone(0), 40);
        due("the other is SENT twice", x.gone(1), 2);
        due("nothing went", x.told(0), 0);
    }

    private static void goneAtMost() {
        says(25, "2 DEPTH is 10 more (9999 at most)");
        for (int depth : new int[] {0, 9988, 9989, 9990, 9999}) {
            WellLendsDepth x = Script.well("depth " + depth, "year 2 0");
            due("DEPTH " + depth, x.gone(0), Math.min(9999, depth + 10));
            x.year(2, 0);
            due("and again", x.gone(0), Math.min(9999, depth + 20));
            due("DEPTH as it was", x.told(1), depth);
        }
        WellLendsDepth y = Script.well("borrower 0 0 30 20", "pass 1", "depth 9969", "year 1 0");
        due("CALLED in: just 9999", y.gone(0), 9999);
        y.depth(9970);
        due("CALLED in: 9999 at most", y.gone(0), 9999);
    }

    private static void book() {
        says(26, "A row comes to the BOOK: how many there are (borrower -1: it is empty then, 0, whatever the other is). NONE; BAD: owes; FULL: 8.");
        for (int b : new int[] {-2, 6, LEAST, MOST}) {
            refusedAlways("BORROWER " + b, NONE, x -> x.book(b, 0));
            refusedAlways("BORROWER " + b + " and OWES", NONE, x -> x.book(b, -1));
        }
        still("the first that has not come", NONE, Script.LIVELY, x -> x.book(4, 0));
        still("nobody", NONE, Script.FRESH, x -> x.book(0, 0));
        for (int owes : new int[] {-1, 100000, LEAST, MOST}) {
            refused("OWES " + owes, BAD, x -> x.book(0, owes));
            WellLendsDepth x = Script.well("borrower 0 0 1 1", "book 0 1");
            due("empty, whatever " + owes, x.book(-1, owes), 0);
            due("count(4)", x.count(4), 0);
            due("empty again", x.book(-1, owes), 0);
        }
    }

    private static void bookFull() {
        says(26, "A BOOK told by hand: BORROWERS, what they OWE (0 .. 99999; 8 at most):");
        WellLendsDepth x = Script.well("borrower 0 0 1 1");
        for (int i = 1; i <= 8; i++) {
            due("row " + i, x.book(0, i % 2 == 0 ? 0 : 99999), i);
            due("count(4)", x.count(4), i);
        }
        due("the first that finds it full", x.book(0, 0), FULL);
        still("a ninth", FULL, Script.FULL, w -> w.book(0, 0));
        still("a ninth, the greatest", FULL, Script.FULL, w -> w.book(5, 99999));
        due("there are 8", x.count(4), 8);
        due("empty", x.book(-1, 0), 0);
        due("and one again", x.book(0, 0), 1);
    }

    private static void looked() {
        says(27, "LOOKED at: the number of the first of these rows by which it is otherwise now (-5: none).");
        due("nobody, no row", new WellLendsDepth().looked(), NOBODY);
        WellLendsDepth x = Script.well("borrower 0 0 10 1", "borrower 0 0 1 1", "pass 2");
        due("no row", x.looked(), NOBODY);
        x.book(0, 1);
        due("it OWES 1", x.looked(), NOBODY);
        x.book(1, 0);
        x.book(0, 1);
        x.book(0, 1);
        x.book(1, 0);
        x.book(1, 0);
        x.book(1, 0);
        due("seven are so", x.looked(), NOBODY);
        x.book(1, 1);
        due("the eighth is not", x.looked(), 7);
        x.pass(1);
        due("now the row 0 is not", x.looked(), 0);
        for (int owes = 0; owes <= 4; owes++) {
            x.book(-1, 0);
            x.book(0, owes);
            due("it OWES 2, and in the BOOK " + owes, x.looked(), owes == 2 ? NOBODY : 0);
        }
        says(27, "LOOKED at; -5.");
        WellLendsDepth y = Script.in("dear 99 k=4;dear 99 k=4;dear 99 k=4;dear 99 k=4;dear 99 k=4;dear 99 k=4");
        Script.play(y, "depth 200", "borrower 4 9 99 1", "pass 60", "book 0 99999");
        due("99999", y.looked(), NOBODY);
        y.book(0, 99998);
        due("99998", y.looked(), 1);
    }
}
