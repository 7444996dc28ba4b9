import java.util.List;

/** Promises 29, 30 and 34: the image, what is as it was behind it and what is not, how many there are. */
final class ImageEdges extends Edge {
    private ImageEdges() {
    }

    static void all() {
        none();
        all(Script.FRESH, 0);
        all(Script.LIVELY, 4);
        all(Script.FULL, 6);
        again();
        rowsOfHand();
        whatStays();
        whichCountry();
        fullBehindUndo();
        count();
        countOfEach();
    }

    private static void none() {
        says(30, "All is as THE IMAGE: how many BORROWERS. STATE: there is none.");
        still("of a new one", STATE, Script.FRESH, WellLendsDepth::undo);
        still("of one with something", STATE, new String[] {"borrower 0 0 1 1", "pass 1", "depth 7"}, WellLendsDepth::undo);
        says(29, "THE IMAGE is taken: how many BORROWERS there are.");
        due("none", new WellLendsDepth().image(), 0);
        for (int i = 1; i <= 6; i++) {
            WellLendsDepth x = new WellLendsDepth();
            for (int b = 0; b < i; b++) {
                x.borrower(BORROWER, 0, 1, 1);
            }
            due("of " + i, x.image(), i);
            due("back to " + i, x.undo(), i);
        }
    }

    /** Behind an image, much that changes, and an undo, a well is as one beside it that took the image alone. */
    private static void all(String[] lines, int many) {
        says(30, "THE IMAGE: THE WELL, BORROWERS with all that is theirs, THE LINE, DAY, SEEN, the YEAR, the BOOK, which COUNTRY holds.");
        WellLendsDepth x = Script.well(lines);
        WellLendsDepth beside = Script.well(lines);
        due("image()", x.image(), many);
        due("beside", beside.image(), many);
        Script.play(x, "borrower 6 9 99 1", "row 0 0 9", "row 5 1 9", "set 0 0 77", "set 0 1 1", "set 2 0 1", "change 0 1",
            "change 2 3", "pass 7", "call 0", "call 3", "depth 5", "pass 1", "see -1 0", "see 1 1", "see 2 2", "year -1 0",
            "year 2 0", "book -1 0", "book 0 99999");
        due("undo()", x.undo(), many);
        List<String> seen = Sight.of(x);
        List<String> as = Sight.of(beside);
        due("as much is seen", seen.size(), as.size());
        for (int i = 0; i < Math.min(seen.size(), as.size()); i++) {
            due("beside it " + as.get(i) + ", but " + seen.get(i), seen.get(i).equals(as.get(i)) ? 1 : 0, 1);
        }
    }

    private static void again() {
        says(30, "All is as THE IMAGE: how many BORROWERS.");
        WellLendsDepth x = Script.well("depth 1");
        x.image();
        x.depth(2);
        x.borrower(BORROWER, 0, 1, 1);
        due("back to none", x.undo(), 0);
        due("nobody is there", x.of(0, 0), NONE);
        due("DEPTH", x.told(1), 1);
        x.depth(3);
        due("and once more", x.undo(), 0);
        due("DEPTH once more", x.told(1), 1);
        due("behind none", x.undo(), 0);
        due("DEPTH still", x.told(1), 1);
        x.depth(4);
        x.borrower(BORROWER, 0, 1, 1);
        due("another image", x.image(), 1);
        x.depth(5);
        due("is the one", x.undo(), 1);
        due("DEPTH of it", x.told(1), 4);
    }

    private static void rowsOfHand() {
        says(30, "SEEN, the YEAR, the BOOK, which COUNTRY holds.");
        WellLendsDepth x = Script.well("borrower 0 0 20 1", "borrower 0 0 30 1", "pass 2");
        // on DAY 3 both bring back, on DAY 4 both come again, on DAY 7 they bring back
        Script.play(x, "see 50 0", "see 50 1", "see 100 2", "see 50 3", "see 50 5");
        Script.play(x, "year 1 0", "year 2 1", "year 2 1", "year 1 1", "year 0 0", "year 0 0", "year 1 0", "year 1 0",
            "year 1 0", "year 2 0");
        Script.play(x, "book 0 2", "book 1 3", "book 0 2", "book 1 3", "book 0 2", "book 1 3", "book 0 2", "book 1 4");
        int[] fits = {x.wanted(0, 0), x.wanted(1, 1)};
        due("20 alone is so", fits[0], 1);
        due("30 is so", fits[1], 30);
        int gone = x.gone(0);
        due("the eighth is otherwise", x.looked(), 7);
        for (int rows = 0; rows <= 10; rows++) {
            x.image();
            Script.play(x, "see -1 0", "year -1 0", "book -1 0");
            for (int i = 0; i < rows; i++) {
                x.see(i, 10 - i);
                x.year(i % 2 * 2, 1);
                x.year(1, 1);
                x.book(1, i);
            }
            due("undo()", x.undo(), 2);
            due("SEEN is as it was", x.wanted(0, 0), fits[0]);
            due("of the other", x.wanted(1, 1), fits[1]);
            due("so many", x.count(2), 5);
            due("the YEAR is as it was", x.gone(0), gone);
            due("so many rows of it", x.count(3), 10);
            due("the BOOK is as it was", x.looked(), 7);
            due("so many rows of it", x.count(4), 8);
        }
    }

    private static void whatStays() {
        says(30, "which COUNTRY holds.");
        WellLendsDepth x = new WellLendsDepth();
        x.image();
        Script.play(x, "borrower 0 0 1 1", "act 0 2 1", "text mark 5", "country", "text mar", "tape 1 2 3", "item 1 2 7");
        due("undo()", x.undo(), 0);
        due("COUNTRIES are as many as were read", x.count(1), 1);
        due("THE TEXT", x.count(5), 3);
        due("THE TAPES", x.read(1, 2), 7);
        due("THE TRACE", x.trace(0), 12);
        due("all of it", x.count(6), 3);
        due("none holds, as then", x.told(2), 10);
    }

    private static void whichCountry() {
        WellLendsDepth x = new WellLendsDepth();
        x.image();
        for (int i = 0; i < 6; i++) {
            due("number " + i, Script.read(x, "mark " + (30 + i)), i);
            if (i == 2) {
                x.image();
            }
        }
        due("the sixth holds", x.told(2), 35);
        x.undo();
        due("the third holds", x.told(2), 32);
        due("there are six all the same", x.count(1), 6);
        due("so there is no seventh", Script.read(x, "mark 1"), FULL);
    }

    private static void fullBehindUndo() {
        says(30, "BORROWERS with all that is theirs");
        WellLendsDepth x = Script.well("borrower 0 0 1 1", "image");
        for (int i = 1; i < 6; i++) {
            x.borrower(TOLD, 9, 99, 1);
            x.row(i, 3, 9);
        }
        x.pass(3);
        due("full", x.borrower(0, 0, 1, 1), FULL);
        due("undo()", x.undo(), 1);
        for (int i = 1; i < 6; i++) {
            due("there is room again", x.borrower(TOLD, 0, 2, 3), i);
            due("HAS nothing of another", x.of(i, 4), 0);
            due("LEFT nothing of another", x.of(i, 5), 0);
            due("SENT nothing of another", x.of(i, 7), 0);
            due("no ROW of another", x.row(i, 3, 0), 0);
            due("its place", x.told(10 + i), i);
        }
        due("full again", x.borrower(0, 0, 1, 1), FULL);
    }

    private static void count() {
        says(34, "How many: 0 BORROWERS, 1 COUNTRIES, 2 SEEN, 3 of the YEAR, 4 of the BOOK, 5 bytes of THE TEXT, 6 bodies that ran in the latest act() (all, kept or not). BAD.");
        for (int what : new int[] {-1, 7, LEAST, MOST}) {
            refusedAlways("what " + what, BAD, x -> x.count(what));
        }
        // TOLD's twelve bodies are the most that run
        int[] full = {6, 6, 5, 10, 8, 100, 12};
        for (int what = 0; what <= 6; what++) {
            int one = what;
            still("what " + what + " of a new one", 0, Script.FRESH, x -> x.count(one));
            still("what " + what + " of a full one", full[what], Script.FULL, x -> x.count(one));
        }
    }

    private static void countOfEach() {
        WellLendsDepth x = Script.well("borrower 6 0 1 1", "act 0 2 1");
        due("bodies of an act", x.count(6), 12);
        x.act(0, 3, 1);
        due("of none", x.count(6), 0);
        int ten = 0;
        for (int i = 1; i <= 12; i++) {
            ten += x.year(0, 0) > 0 ? 1 : 0;
            due("of the YEAR", x.count(3), Math.min(10, i));
            due("SEEN", x.see(1, 1) > 0 ? x.count(2) : FULL, i <= 5 ? i : FULL);
            due("of the BOOK", x.book(0, 0) > 0 ? x.count(4) : FULL, i <= 8 ? i : FULL);
        }
        due("ten", ten, 10);
    }
}
