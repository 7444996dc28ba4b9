/** Each promise by hand: ordinary calls, the edges that the document names, and wrong numbers. */
public final class PromiseTest {
    private static final int NONE = -1, BAD = -2, STATE = -3, FULL = -4, NOBODY = -5;
    private static final int NOTHING = -11, CAST = -12, PLACE = -13, SIZE = -14;
    private static final long NO = Long.MIN_VALUE;
    private static int wrong = 0;
    private static int looked = 0;

    private static void due(int promise, String what, long got, long want) {
        looked++;
        if (got != want) {
            wrong++;
            System.out.println("promise " + promise + ", " + what + ": answered " + got + ", due is " + want);
        }
    }

    private static int feed(WellLendsDepth x, String text) {
        for (int i = 0; i < text.length(); i++) {
            x.feed(text.charAt(i));
        }
        return x.country();
    }

    private static WellLendsDepth in(String country) {
        WellLendsDepth x = new WellLendsDepth();
        feed(x, country);
        return x;
    }

    private static WellLendsDepth ofAllKinds() {
        WellLendsDepth x = new WellLendsDepth();
        for (int kind = 1; kind < 7; kind++) {
            x.borrower(kind, kind + 1, 10 * kind, 1);
        }
        return x;
    }

    private static void newObject() {
        WellLendsDepth x = new WellLendsDepth();
        for (int what = 0; what <= 6; what++) {
            due(1, "count " + what, x.count(what), 0);
        }
        due(1, "depth", x.told(1), 100);
        due(1, "day", x.told(0), 0);
        due(1, "mark", x.told(2), 10);
        due(1, "of nobody", x.of(0, 0), NONE);
        for (int tape = 0; tape < 6; tape++) {
            due(1, "tape " + tape, x.item(tape, 0, 1), NOTHING);
        }
    }

    private static void borrower() {
        WellLendsDepth x = new WellLendsDepth();
        due(2, "kind below", x.borrower(-1, 0, 1, 1), NONE);
        due(2, "kind above", x.borrower(7, 10, 0, 0), NONE);
        due(2, "v below", x.borrower(0, -1, 1, 1), BAD);
        due(2, "v above", x.borrower(0, 10, 1, 1), BAD);
        due(2, "wants below", x.borrower(0, 0, 0, 1), BAD);
        due(2, "wants above", x.borrower(0, 0, 100, 1), BAD);
        due(2, "every below", x.borrower(0, 0, 1, 0), BAD);
        due(2, "every above", x.borrower(0, 0, 1, 21), BAD);
        due(2, "none came", x.count(0), 0);
        due(2, "least", x.borrower(0, 0, 1, 1), 0);
        due(2, "most", x.borrower(6, 9, 99, 20), 1);
        due(2, "last in the line", x.told(11), 1);
        for (int i = 2; i < 6; i++) {
            due(2, "number " + i, x.borrower(i, 0, 1, 1), i);
        }
        due(2, "seventh", x.borrower(0, 0, 1, 1), FULL);
        due(2, "seventh of no kind", x.borrower(7, 0, 1, 1), NONE);
        due(2, "seventh of a bad v", x.borrower(0, 10, 1, 1), BAD);
    }

    private static void of() {
        WellLendsDepth x = ofAllKinds();
        int[] asks = {10, 40, 30, 40, 90, 60};
        int[] keeps = {5, 3, 3, 8, 3, 3};
        for (int b = 0; b < 6; b++) {
            due(3, "kind", x.of(b, 0), b + 1);
            due(3, "v", x.of(b, 1), b + 2);
            due(3, "wants", x.of(b, 2), 10 * b + 10);
            due(3, "every", x.of(b, 3), 1);
            for (int what = 4; what <= 7; what++) {
                due(3, "at first " + what, x.of(b, what), 0);
            }
            due(3, "rate", x.of(b, 8), 1);
            due(3, "asks of " + b, x.of(b, 9), asks[b]);
            due(3, "keeps of " + b, x.of(b, 10), keeps[b]);
            due(3, "stays away", x.of(b, 11), 0);
            due(3, "brings back", x.of(b, 12), 0);
        }
        due(3, "what below", x.of(0, -1), NONE);
        due(3, "what above", x.of(0, 13), NONE);
        due(3, "borrower below", x.of(-1, 0), NONE);
        due(3, "borrower above", x.of(6, 0), NONE);
        x.depth(50);
        due(3, "taking asks for what is above the mark", x.of(4, 9), 40);
        x.depth(7);
        due(3, "and for nothing below it", x.of(4, 9), 0);
        ofWhatIsBroughtBack();
        ofRates();
        ofOneThatStaysAway();
        ofTests();
        WellLendsDepth y = new WellLendsDepth();
        y.borrower(5, 0, 30, 1);
        due(3, "taking asks for no more than twice what it wants", y.of(0, 9), 60);
        y.borrower(6, 0, 30, 1);
        y.row(1, 1, 4);
        y.pass(9);
        due(3, "told asks by the day modulo 4", y.of(1, 9), 34);
        staysAwayFrom31();
    }

    private static void staysAwayFrom31() {
        WellLendsDepth x = in("dear 30 l=1");
        x.borrower(4, 0, 10, 1);
        x.pass(4);
        due(3, "1 and 1 and 31", x.of(0, 6), 33);
        due(3, "it has stayed away", x.of(0, 5), 3);
        WellLendsDepth y = in("dear 28 l=1");
        y.borrower(4, 0, 10, 1);
        y.pass(4);
        due(3, "1 and 1 and 29", y.of(0, 6), 31);
        due(3, "31 is more than 30", y.of(0, 5), 3);
        WellLendsDepth z = in("dear 27 l=1");
        z.borrower(4, 0, 10, 1);
        z.pass(4);
        due(3, "1 and 1 and 28 is not", z.of(0, 5), 0);
    }

    private static void ofWhatIsBroughtBack() {
        WellLendsDepth x = new WellLendsDepth();
        x.borrower(3, 0, 29, 1);
        x.borrower(6, 0, 11, 1);
        x.row(1, 0, 9);
        x.borrower(0, 0, 15, 1);
        due(3, "told asks for its row too", x.of(1, 9), 20);
        x.pass(1);
        due(3, "losing has", x.of(0, 4), 29);
        due(3, "losing brings back", x.of(0, 12), 27);
        due(3, "told has", x.of(1, 4), 20);
        due(3, "told brings back", x.of(1, 12), 18);
        due(3, "a borrower brings back", x.of(2, 12), 15);
        due(3, "left", x.of(0, 5), 3);
        due(3, "another row on another day", x.of(1, 9), 11);
    }

    private static void ofRates() {
        WellLendsDepth x = in("dear 5 b=0;dear 7 k=2&v>3;cheap 9 b=1;dear 2 d=0;dear 90 h>0|l>0");
        x.borrower(1, 0, 20, 1);
        x.borrower(2, 4, 1, 1);
        x.borrower(2, 3, 1, 1);
        due(3, "rate by number and day", x.of(0, 8), 8);
        due(3, "rate by kind, v, less cheap", x.of(1, 8), 1);
        due(3, "rate by day alone", x.of(2, 8), 3);
        x.pass(1);
        due(3, "rate by has and left", x.of(0, 8), 96);
        due(3, "1 and 7 and 90 less 9", x.of(1, 8), 89);
        WellLendsDepth y = in("cheap 50 b<9");
        y.borrower(0, 0, 1, 1);
        due(3, "0 at least", y.of(0, 8), 0);
    }

    private static void ofOneThatStaysAway() {
        WellLendsDepth x = in("dear 4 b=0");
        x.borrower(4, 0, 20, 1);
        x.borrower(1, 0, 20, 1);
        x.pass(4);
        // 5 times 20 by 10 a day, three times
        due(3, "it owes 30", x.of(0, 6), 30);
        due(3, "that is not more than 30", x.of(0, 11), 0);
        due(3, "so it has brought it back", x.of(0, 4), 0);
        x.pass(2);
        due(3, "more than 30", x.of(0, 6), 40);
        due(3, "stays away", x.of(0, 11), 1);
        x.pass(2);
        due(3, "keeps it again", x.of(0, 4), 20);
        due(3, "for as long", x.of(0, 5), 3);
    }

    private static void ofTests() {
        String[] hold = {"h=2", "h<3", "h>1", "l=3", "l<4", "l>2", "d=1", "d<2", "d>0", "b=0", "k=2", "v=7",
            "b<1", "k>1", "v<8", "h=02", "l=03", "!h=1", "!h<2", "!h>2", "d=1&h=2&l=3", "d=0|h=1|l=3", "!(d=0|h=1)&l=3"};
        String[] fail = {"h=28", "h<2", "h>2", "l=2", "l<3", "l>3", "d=0", "d<1", "d>1", "b=1", "k=0", "v=6",
            "b<0", "k>2", "v<7", "h=20", "l=30", "!h=2", "!h<3", "!h>1", "d=1&h=2&l=2", "d=0|h=1|l=2", "!(d=0|h=2)&l=3"};
        for (int i = 0; i < hold.length; i++) {
            WellLendsDepth x = new WellLendsDepth();
            x.borrower(2, 7, 14, 1);
            x.pass(10);
            x.call(0);
            x.depth(100);
            for (int day = 0; day < 30 && (x.of(0, 4) == 0 || x.told(0) % 10 != 1); day++) {
                x.call(0);
                x.pass(1);
            }
            due(3, "has 28", x.of(0, 4), 28);
            feed(x, "dear 4 b=9;dear 7 " + hold[i] + ";dear 9 b=9");
            due(3, hold[i], x.of(0, 8), 8);
            feed(x, "dear 4 b=9;dear 7 " + fail[i] + ";dear 9 b=9");
            due(3, fail[i], x.of(0, 8), 1);
            feed(x, "dear 4 b=0;dear 7 " + hold[i] + ";dear 9 b=0;cheap 3 " + hold[i]);
            due(3, "all together of " + hold[i], x.of(0, 8), 18);
        }
    }

    private static void set() {
        WellLendsDepth x = new WellLendsDepth();
        x.borrower(0, 0, 30, 4);
        due(4, "nobody", x.set(1, 0, 1), NONE);
        due(4, "what above", x.set(0, 2, 0), NONE);
        due(4, "what below", x.set(0, -1, 1), NONE);
        due(4, "wants below", x.set(0, 0, 0), BAD);
        due(4, "wants above", x.set(0, 0, 100), BAD);
        due(4, "every below", x.set(0, 1, 0), BAD);
        due(4, "every above", x.set(0, 1, 21), BAD);
        due(4, "wants were", x.set(0, 0, 99), 30);
        due(4, "every was", x.set(0, 1, 20), 4);
        due(4, "wants are", x.of(0, 2), 99);
        due(4, "every is", x.of(0, 3), 20);
        due(4, "least wants", x.set(0, 0, 1), 99);
        due(4, "least every", x.set(0, 1, 1), 20);
    }

    private static void row() {
        WellLendsDepth x = new WellLendsDepth();
        x.borrower(6, 0, 1, 1);
        x.borrower(3, 0, 1, 1);
        due(5, "nobody", x.row(2, 0, 0), NONE);
        due(5, "part below", x.row(0, -1, 0), NONE);
        due(5, "part above", x.row(1, 4, 10), NONE);
        due(5, "below", x.row(0, 0, -1), BAD);
        due(5, "above, of another kind", x.row(1, 0, 10), BAD);
        due(5, "another kind", x.row(1, 0, 9), STATE);
        for (int part = 0; part < 4; part++) {
            due(5, "was", x.row(0, part, part + 2), 0);
        }
        due(5, "was told", x.row(0, 3, 9), 5);
        x.depth(0);
        int[] asks = {3, 4, 5, 10, 3};
        for (int day = 0; day < 5; day++) {
            due(5, "asks on day " + day, x.of(0, 9), asks[day]);
            x.pass(1);
        }
    }

    private static void depth() {
        WellLendsDepth x = new WellLendsDepth();
        due(6, "below", x.depth(-1), BAD);
        due(6, "above", x.depth(10000), BAD);
        due(6, "was", x.depth(9999), 100);
        due(6, "was most", x.depth(0), 9999);
        due(6, "is", x.told(1), 0);
    }

    private static void change() {
        WellLendsDepth x = new WellLendsDepth();
        due(7, "nobody", x.change(0, 0), NONE);
        x.borrower(0, 0, 90, 1);
        x.borrower(0, 0, 90, 1);
        x.borrower(0, 0, 1, 1);
        due(7, "below", x.change(-1, 0), NONE);
        due(7, "above", x.change(0, 3), NONE);
        due(7, "both", x.change(1, 1), BAD);
        due(7, "first", x.change(2, 0), 2);
        due(7, "now the other is there", x.change(2, 0), 0);
        due(7, "again", x.change(0, 1), 0);
        due(7, "line 0", x.told(10), 1);
        due(7, "line 1", x.told(11), 0);
        due(7, "line 2", x.told(12), 2);
        x.pass(1);
        due(7, "who stands ahead has it", x.of(1, 4), 90);
        due(7, "who stands behind is sent away", x.of(0, 7), 1);
        due(7, "all others too", x.of(2, 7), 1);
    }

    private static void call() {
        WellLendsDepth x = new WellLendsDepth();
        x.borrower(3, 0, 40, 1);
        due(8, "nobody", x.call(1), NONE);
        due(8, "below", x.call(-1), NONE);
        due(8, "has nothing", x.call(0), STATE);
        x.pass(1);
        due(8, "had", x.call(0), 40);
        due(8, "all of it is back", x.told(1), 100);
        due(8, "has", x.of(0, 4), 0);
        due(8, "left", x.of(0, 5), 0);
        due(8, "again", x.call(0), STATE);
        x.pass(1);
        x.depth(9990);
        x.call(0);
        due(8, "9999 at most", x.told(1), 9999);
    }

    private static void feed() {
        WellLendsDepth x = new WellLendsDepth();
        due(9, "below", x.feed(-1), BAD);
        due(9, "above", x.feed(128), BAD);
        for (int i = 1; i <= 100; i++) {
            due(9, "sign " + i, x.feed(i == 1 ? 0 : 127), i);
        }
        due(9, "one more", x.feed('d'), FULL);
        due(9, "one more, bad", x.feed(128), BAD);
        due(9, "all", x.count(5), 100);
    }

    private static void fault(String text, int place) {
        WellLendsDepth x = new WellLendsDepth();
        due(10, text, feed(x, text), -10 - place);
        due(10, "the text is empty behind " + text, x.count(5), 0);
        due(10, "none holds behind " + text, x.count(1), 0);
    }

    private static void good(String text) {
        due(10, text, feed(new WellLendsDepth(), text), 0);
    }

    private static void country() {
        fault("", 0);
        fault("x", 0);
        fault("D", 0);
        fault("deer", 2);
        fault("dear", 4);
        fault("dear1", 4);
        fault("dear ", 5);
        fault("dear  1", 5);
        fault("dear 1", 6);
        fault("dear 12", 7);
        fault("dear 123", 7);
        fault("dear 12 ", 8);
        fault("dear 1 x=1", 7);
        fault("dear 1 b", 8);
        fault("dear 1 b!", 8);
        fault("dear 1 b==", 9);
        fault("dear 1 b=1 ", 10);
        fault("dear 1 b=123", 11);
        fault("dear 1 b=1&", 11);
        fault("dear 1 b=1&&", 11);
        fault("dear 1 (b=1", 11);
        fault("dear 1 b=1)", 10);
        fault("dear 1 ()", 8);
        fault("dear 1 b=1;", 11);
        fault(";mark 1", 0);
        fault("mark 1;;mark 1", 7);
        fault("mark 1 ", 6);
        fault("dear 1 !!!!!b=1", 11);
        fault("dear 1 (!(!(b=1))", 11);
        fault("dear 1 (!((b=1))", 16);
        fault("dear 1 (!!(b=1", 14);
        fault("dear 1 ((((b=1))))&((!(!", 23);
        fault("mark 1;mark 1;mark 1;mark 1;mark 1;mark 1;mark 1;mark 1;mark 1;mark 1;mark 1", 69);
        good("mark 1;mark 1;mark 1;mark 1;mark 1;mark 1;mark 1;mark 1;mark 1;mark 1");
        good("dear 1 !!!!b=1");
        good("dear 1 ((((b=1))))|!(!(b<1)&!(k>2))");
        good("cheap 00 d=99|l<0&h>1|v=2");
        due(10, "not binds closest, then and", rateIn("dear 1 !b=1&b=1|b=0"), 2);
        due(10, "so or is outermost", rateIn("dear 1 b=0|b=0&b=1"), 2);
        due(10, "and ( ) within", rateIn("dear 1 (b=0|b=0)&b=1"), 1);
        due(10, "not of ( )", rateIn("dear 1 !(b=1&b=0)"), 2);
        due(10, "not of one alone", rateIn("dear 1 !b=1|b=0"), 2);
        WellLendsDepth z = new WellLendsDepth();
        feed(z, "mark 3;spring 5;fine 6;dear 9 b=0;cheap 2 b=0;x");
        due(10, "of a fault nothing is left: mark", z.told(2), 10);
        feed(z, "dear 3 b=0");
        z.borrower(0, 0, 1, 1);
        due(10, "nor a price behind it", z.of(0, 8), 4);
        due(10, "mark", z.told(2), 10);
        due(10, "spring", z.told(3), 0);
        due(10, "fine", z.told(4), 0);
        feed(z, "mark 3;spring 5;fine 6;dear 9 b=0");
        feed(z, "dear 4 b=0");
        due(10, "nor of the one ahead", z.told(2) + z.told(3) + z.told(4) + z.of(0, 8), 10 + 5);
        WellLendsDepth x = new WellLendsDepth();
        for (int i = 0; i < 6; i++) {
            due(10, "country " + i, feed(x, "mark " + i), i);
            due(10, "its mark holds", x.told(2), i);
            due(10, "a fault", feed(x, "mark"), i < 5 ? -14 : FULL);
            due(10, "the one that held holds", x.told(2), i);
        }
        due(10, "the text stays", x.count(5), 4);
        due(10, "full", x.country(), FULL);
    }

    private static int rateIn(String country) {
        WellLendsDepth x = in(country);
        x.borrower(0, 0, 1, 1);
        return x.of(0, 8);
    }

    private static void told() {
        WellLendsDepth x = in("mark 3;spring 4;fine 5;mark 6;fine 8;spring 7");
        due(11, "last mark", x.told(2), 6);
        due(11, "last spring", x.told(3), 7);
        due(11, "last fine", x.told(4), 8);
        due(11, "below", x.told(-1), NONE);
        due(11, "above", x.told(6), NONE);
        due(11, "nobody in the line", x.told(10), NONE);
        x.borrower(0, 0, 40, 1);
        x.borrower(0, 0, 10, 1);
        due(11, "line 0", x.told(10), 0);
        due(11, "line 1", x.told(11), 1);
        due(11, "line 2", x.told(12), NONE);
        x.pass(3);
        due(11, "day", x.told(0), 3);
        due(11, "depth", x.told(1), 71);
        due(11, "owes of all", x.told(5), 10);
    }

    private static void pass() {
        WellLendsDepth x = new WellLendsDepth();
        x.borrower(0, 0, 30, 2);
        x.borrower(0, 0, 60, 1);
        x.borrower(0, 0, 1, 3);
        due(12, "below", x.pass(-1), BAD);
        due(12, "above", x.pass(61), BAD);
        due(12, "none", x.pass(0), 100);
        due(12, "the mark itself is left", x.pass(1), 10);
        due(12, "the last is sent away", x.of(2, 7), 1);
        due(12, "left", x.of(0, 5), 3);
        due(12, "two more", x.pass(2), 10);
        due(12, "owes", x.of(0, 6), 6);
        due(12, "left less", x.of(0, 5), 1);
        // on day 3 both bring theirs back, and none comes again on that day; the last has 1 then
        due(12, "brought back", x.pass(1), 99);
        due(12, "has nothing", x.of(0, 4), 0);
        due(12, "the last has", x.of(2, 4), 1);
        due(12, "owes it", x.of(0, 6), 9);
        due(12, "come again", x.pass(1), 9 + 60);
        due(12, "the second is sent away", x.of(1, 7), 1);
        due(12, "all in the order of the line", x.of(0, 4), 30);
        fines();
        caps();
        WellLendsDepth y = new WellLendsDepth();
        for (int i = 0; i < 166; i++) {
            y.pass(60);
        }
        due(12, "beyond 9999", y.pass(40), STATE);
        due(12, "nothing went", y.told(0), 9960);
        due(12, "beyond, bad", y.pass(61), BAD);
        y.pass(39);
        due(12, "last day", y.told(0), 9999);
        due(12, "none more", y.pass(0), 100);
        due(12, "one more", y.pass(1), STATE);
        due(12, "asked of beyond", y.on(60, 0), 100);
    }

    private static void fines() {
        WellLendsDepth x = in("fine 4;spring 3;dear 2 l=3");
        x.borrower(0, 0, 35, 5);
        x.pass(4);
        // rate 3 on the first day that it has it (left 3), then 1 and 1, each by 35, cut
        due(12, "rate by left ahead of its change", x.of(0, 6), 10 + 3 + 3);
        due(12, "spring each day", x.told(1), 112);
        x.depth(0);
        x.pass(2);
        due(12, "the fine is taken off", x.of(0, 6), 12);
        due(12, "sent", x.of(0, 7), 1);
        x.pass(15);
        due(12, "then by springs 50 and 1 is there", x.of(0, 4), 35);
        WellLendsDepth y = in("fine 4");
        y.borrower(5, 0, 1, 1);
        y.depth(10);
        y.pass(3);
        due(12, "owes 0 at least", y.of(0, 6), 0);
        due(12, "sent as it asks for nothing", y.of(0, 7), 3);
    }

    private static void caps() {
        WellLendsDepth x = in("dear 99 b=0;dear 99 b=0;dear 99 b=0;dear 99 b=0;spring 99");
        x.borrower(4, 9, 99, 1);
        x.depth(9990);
        x.pass(1);
        due(12, "9999 at most by the spring", x.told(1), 9990);
        x.pass(1);
        due(12, "a day's due", x.of(0, 6), 397 * 99 / 10);
        due(12, "spring", x.told(1), 9999);
        x.pass(30);
        due(12, "99999 at most", x.of(0, 6), 99999);
        due(12, "stays away for ever", x.of(0, 4), 99);
    }

    private static WellLendsDepth three() {
        WellLendsDepth x = new WellLendsDepth();
        x.borrower(0, 0, 30, 2);
        x.borrower(0, 0, 60, 1);
        x.borrower(0, 0, 1, 3);
        return x;
    }

    private static void on() {
        WellLendsDepth x = three();
        due(13, "what below", x.on(0, -1), NONE);
        due(13, "what above", x.on(99, 3), NONE);
        due(13, "nobody has", x.on(0, 13), NONE);
        due(13, "nobody owes", x.on(0, 23), NONE);
        due(13, "wrapping", x.on(0, Integer.MIN_VALUE), NONE);
        due(13, "n below", x.on(-1, 0), BAD);
        due(13, "n above", x.on(61, 0), BAD);
        due(13, "now", x.on(0, 0), 100);
        due(13, "depth", x.on(4, 0), 99);
        due(13, "sent", x.on(5, 1), 2);
        due(13, "owes", x.on(4, 2), 9 + 18);
        due(13, "one has", x.on(3, 11), 60);
        due(13, "one owes", x.on(3, 21), 12);
        due(13, "the last has", x.on(4, 12), 1);
        due(13, "the first owes", x.on(4, 20), 9);
        due(13, "the first has", x.on(3, 10), 30);
        due(13, "the last owes", x.on(60, 22), 0);
        due(13, "nothing changed", x.told(0), 0);
        due(13, "nothing at all", x.told(1), 100);
        x.pass(1);
        due(13, "sent more", x.on(0, 1), 0);
        due(13, "sent more by 4", x.on(4, 1), 1);
    }

    private static void lowest() {
        WellLendsDepth x = three();
        due(14, "what", x.lowest(61, 2), NONE);
        due(14, "what below", x.lowest(0, -1), NONE);
        due(14, "n below", x.lowest(-1, 0), BAD);
        due(14, "n above", x.lowest(61, 1), BAD);
        due(14, "now", x.lowest(0, 0), 100);
        due(14, "behind none", x.lowest(0, 1), 0);
        due(14, "the least", x.lowest(3, 0), 10);
        due(14, "first", x.lowest(3, 1), 1);
        WellLendsDepth y = new WellLendsDepth();
        y.borrower(0, 0, 30, 7);
        y.pass(1);
        y.call(0);
        due(14, "not yet behind 6", y.lowest(6, 0), 100);
        due(14, "behind the last", y.lowest(7, 0), 70);
        due(14, "that is 7", y.lowest(7, 1), 7);
        due(14, "and behind no later one", y.lowest(60, 1), 7);
        x.depth(5);
        due(14, "it is least now", x.lowest(60, 1), 0);
        due(14, "so deep", x.lowest(60, 0), 5);
    }

    private static void first() {
        WellLendsDepth x = new WellLendsDepth();
        due(15, "nobody", x.first(), NOBODY);
        x.borrower(0, 0, 80, 7);
        due(15, "never", x.first(), NOBODY);
        x.borrower(0, 0, 20, 3);
        due(15, "the next one", x.first(), 0);
        x.set(1, 1, 8);
        x.pass(1);
        // the first has 80 on the days 7 to 9, so the second finds too little on day 8
        due(15, "from now on", x.first(), 7);
        WellLendsDepth y = in("spring 1");
        y.borrower(0, 0, 10, 1);
        y.set(0, 1, 20);
        y.pass(60);
        y.depth(0);
        due(15, "at once", y.first(), 0);
        WellLendsDepth z = in("mark 99;spring 1");
        z.borrower(0, 0, 1, 20);
        z.depth(98);
        z.pass(1);
        z.depth(80);
        due(15, "on day 20, behind 19 more", z.first(), 19);
        z.depth(81);
        due(15, "by then it is deep enough", z.first(), NOBODY);
        firstOnTheLastDay();
    }

    /** One that borrows, loses and so comes to less than the mark on the day of number 60 alone. */
    private static void firstOnTheLastDay() {
        WellLendsDepth x = new WellLendsDepth();
        x.borrower(3, 0, 10, 20);
        // on the days 0, 20, 40 it has 10 and loses 1 each time
        x.depth(22);
        due(15, "number 60", x.first(), 60);
        x.depth(23);
        due(15, "beyond 60 none is looked at", x.first(), NOBODY);
    }

    private static void best() {
        WellLendsDepth x = new WellLendsDepth();
        due(16, "below", x.best(-1), NONE);
        due(16, "above", x.best(4), NONE);
        due(16, "nobody to call", x.best(0), NOBODY);
        due(16, "nobody ahead", x.best(1), NOBODY);
        due(16, "the greatest mark", x.best(2), 95);
        due(16, "turned", x.best(3), 0);
        x.borrower(4, 9, 80, 1);
        x.borrower(0, 0, 20, 15);
        feed(x, "dear 99 k=4");
        due(16, "sent on days 0 and 15", x.best(3), 2);
        due(16, "as nobody has, none is called", x.best(0), NOBODY);
        x.pass(1);
        // STRAY has it and stays away for ever; called in, it comes again at once
        due(16, "sent on days 15 and 30", x.best(3), 2);
        due(16, "calling helps nobody", x.best(0), NOBODY);
        x.set(0, 1, 20);
        due(16, "calling helps the other", x.best(0), 0);
        x.set(1, 1, 1);
        due(16, "turned", x.best(3), 30);
        bestAhead();
        bestCall();
        bestCallOfSeveral();
        bestMark();
    }

    private static void bestAhead() {
        WellLendsDepth x = new WellLendsDepth();
        x.borrower(0, 0, 90, 1);
        x.borrower(0, 0, 90, 20);
        x.borrower(0, 0, 20, 2);
        x.borrower(0, 0, 20, 2);
        // with a 90 ahead none of the others ever finds enough
        int turned = x.best(3);
        int ahead = x.best(1);
        int least = turned;
        int due = NOBODY;
        for (int one = 0; one < 4; one++) {
            for (int other = one + 1; other < 4; other++) {
                x.image();
                x.change(one, other);
                if (x.best(3) < least) {
                    least = x.best(3);
                    due = 10 * one + other;
                }
                x.undo();
            }
        }
        due(16, "ahead as by changing", ahead, due);
        due(16, "the line is as it was", x.told(10), 0);
        WellLendsDepth y = new WellLendsDepth();
        y.borrower(0, 0, 20, 20);
        y.borrower(0, 0, 50, 20);
        y.borrower(0, 0, 90, 20);
        y.borrower(0, 0, 20, 20);
        // 20 and 50 are there, and 20 of the third's 90; the fourth finds its 20: so the third alone is sent, twice
        due(16, "two are sent", y.best(3), 2);
        due(16, "none does better", y.best(1), NOBODY);
        y.depth(80);
        due(16, "four are sent", y.best(3), 4);
        due(16, "as always", y.best(1), NOBODY);
        y.set(1, 0, 65);
        y.depth(100);
        // 20 and 65 leave 15: two are sent each time
        y.set(2, 0, 30);
        due(16, "20 and 65: two sent, twice", y.best(3), 4);
        // 30, 20 and 20 are had alike by changing the first and the third, or the second and the third
        due(16, "the first of several, in the order of the places", y.best(1), 2);
        y.change(1, 2);
        due(16, "the second alone is sent", y.best(3), 2);
        y.change(1, 2);
        y.change(0, 1);
        due(16, "65 and 20", y.best(3), 4);
        due(16, "the 65 and the 30", y.best(1), 2);
        WellLendsDepth z = new WellLendsDepth();
        z.borrower(0, 0, 30, 20);
        z.borrower(0, 0, 60, 20);
        z.borrower(0, 0, 25, 20);
        z.borrower(0, 0, 5, 1);
        z.borrower(0, 0, 5, 1);
        // 25 ahead of 60 leaves enough for both 5; behind 25 and 60 there is one 5 alone
        due(16, "the second and the third", z.best(1), 12);
        z.change(1, 2);
        due(16, "one is sent, twice", z.best(3), 2);
    }

    private static void bestCall() {
        WellLendsDepth x = in("dear 99 k=4");
        x.borrower(4, 0, 35, 20);
        x.borrower(4, 0, 45, 20);
        x.borrower(0, 0, 12, 1);
        x.change(0, 2);
        x.change(1, 2);
        x.pass(1);
        // 12, then 35 and not 45, or as the line stands
        due(16, "line", 100 * x.told(10) + 10 * x.told(11) + x.told(12), 201);
        x.pass(4);
        due(16, "the first stays away", x.of(0, 4), 35);
        x.call(2);
        x.depth(0);
        int turned = x.best(3);
        x.image();
        x.call(0);
        int called = x.best(3);
        x.undo();
        due(16, "calling the first is better", called < turned ? 1 : 0, 1);
        due(16, "so it is called", x.best(0), 0);
        due(16, "and still has it", x.of(0, 4), 35);
    }

    private static void bestCallOfSeveral() {
        // two of one kind and number that stay away: calling either helps alike, so the first is called
        WellLendsDepth x = in("dear 99 k=4");
        x.borrower(0, 0, 30, 1);
        x.borrower(4, 0, 20, 20);
        x.borrower(4, 0, 20, 20);
        x.borrower(4, 0, 1, 20);
        x.change(0, 3);
        x.pass(4);
        x.depth(21);
        x.call(0);
        x.depth(21);
        x.image();
        int[] turned = new int[4];
        for (int b = 1; b < 4; b++) {
            x.call(b);
            turned[b] = x.best(3);
            x.undo();
        }
        due(16, "1 and 2 help alike", turned[1], turned[2]);
        due(16, "3 does not", turned[3] > turned[1] ? 1 : 0, 1);
        due(16, "the first of them", x.best(0), 1);
    }

    private static void bestMark() {
        WellLendsDepth x = new WellLendsDepth();
        x.borrower(0, 0, 60, 20);
        due(16, "40 may stay", x.best(2), 40);
        x.borrower(5, 0, 30, 20);
        // TAKING asks for what is above the mark: at 35 there is 5, at 40 nothing
        due(16, "35 leaves some", x.best(2), 35);
        WellLendsDepth y = new WellLendsDepth();
        y.borrower(0, 0, 5, 20);
        y.borrower(0, 0, 60, 20);
        y.borrower(0, 0, 90, 20);
        // at 0 to 35 the third alone is sent, at 40 the second too, from 100 on the first
        due(16, "35 of several alike", y.best(2), 35);
        y.depth(95);
        due(16, "30 of 95", y.best(2), 30);
        y.depth(94);
        due(16, "25 of 94", y.best(2), 25);
        y.set(1, 0, 99);
        due(16, "then the first alone counts", y.best(2), 85);
        y.set(0, 0, 1);
        y.set(2, 0, 99);
        y.depth(96);
        due(16, "95", y.best(2), 95);
        y.depth(95);
        due(16, "90", y.best(2), 90);
        feed(x, "mark 99");
        due(16, "the mark that holds does not matter", x.best(2), 35);
        due(16, "and stays", x.told(2), 99);
        due(16, "turned by it, as TAKING finds 1 above it", x.best(3), 2);
    }

    private static void seldom() {
        WellLendsDepth x = new WellLendsDepth();
        due(17, "nobody", x.seldom(0), NONE);
        x.borrower(0, 0, 60, 1);
        due(17, "below", x.seldom(-1), NONE);
        due(17, "it is alone", x.seldom(0), 1);
        x.borrower(0, 0, 60, 10);
        // the other comes on days 0, 10, 20 (and is sent on day 0 anyhow unless it stands ahead)
        x.change(0, 1);
        int least = Integer.MAX_VALUE;
        int due = 0;
        for (int every = 1; every <= 20; every++) {
            x.set(0, 1, every);
            if (x.best(3) < least) {
                least = x.best(3);
                due = every;
            }
        }
        x.set(0, 1, 1);
        due(17, "as by setting", x.seldom(0), due);
        due(17, "it stays", x.of(0, 3), 1);
        seldomest();
        x.depth(0);
        due(17, "sent on days 0 and 15 alone", x.seldom(0), 15);
    }

    /** One that finds too little always is sent on each of its days: so they are but counted. */
    private static void seldomest() {
        WellLendsDepth x = new WellLendsDepth();
        x.borrower(0, 0, 99, 20);
        int found = 0;
        for (int day = 0; day < 300; day++) {
            int least = 100;
            int due = 0;
            for (int every = 1; every <= 20; every++) {
                int times = (day + 29) / every - (day + every - 1) / every + 1;
                if (times < least) {
                    least = times;
                    due = every;
                }
            }
            due(17, "by counting, day " + day, x.seldom(0), due);
            found += due == 20 ? 1 : 0;
            x.pass(1);
        }
        due(17, "20 is the least some time", found > 0 ? 1 : 0, 1);
    }

    private static void more() {
        WellLendsDepth x = new WellLendsDepth();
        due(18, "below", x.more(0), BAD);
        due(18, "above", x.more(13), BAD);
        due(18, "nobody", x.more(12), 0);
        x.borrower(0, 0, 60, 20);
        x.borrower(2, 0, 30, 5);
        due(18, "130 is due", x.more(1), 30);
        x.depth(91);
        due(18, "by tens", x.more(1), 40);
        feed(x, "mark 99");
        x.depth(9);
        due(18, "more", x.more(12), 210);
        for (int i = 0; i < 4; i++) {
            x.borrower(2, 0, 99, 1);
        }
        x.depth(0);
        due(18, "99 and 912", x.more(1), NOBODY);
        x.depth(1);
        x.set(2, 0, 78);
        x.set(3, 0, 98);
        due(18, "most of all", x.more(1), 970);
        WellLendsDepth y = new WellLendsDepth();
        for (int i = 0; i < 6; i++) {
            y.borrower(2, 0, 99, 1);
        }
        y.depth(208);
        due(18, "990", y.more(1), 990);
        y.depth(207);
        due(18, "beyond 990", y.more(1), NOBODY);
    }

    private static void see() {
        WellLendsDepth x = new WellLendsDepth();
        due(19, "depth below", x.see(-2, 0), BAD);
        due(19, "depth above", x.see(10000, 0), BAD);
        due(19, "n below", x.see(0, -1), BAD);
        due(19, "n above", x.see(0, 11), BAD);
        due(19, "one", x.see(0, 0), 1);
        due(19, "two", x.see(9999, 10), 2);
        for (int i = 3; i <= 5; i++) {
            due(19, "one more", x.see(1, 1), i);
        }
        due(19, "full", x.see(1, 1), FULL);
        due(19, "bad ahead of full", x.see(1, 11), BAD);
        due(19, "none then", x.see(-1, 99), 0);
        due(19, "none", x.count(2), 0);
    }

    private static void wanted() {
        WellLendsDepth x = new WellLendsDepth();
        due(20, "nobody", x.wanted(0, 0), NONE);
        x.borrower(0, 0, 30, 1);
        due(20, "what", x.wanted(0, 2), NONE);
        due(20, "what below", x.wanted(0, -1), NONE);
        due(20, "all fit", x.wanted(0, 0), 99);
        due(20, "the least", x.wanted(0, 1), 1);
        x.see(100, 1);
        due(20, "those above 90 are sent away", x.wanted(0, 0), 9);
        due(20, "91", x.wanted(0, 1), 91);
        x.see(-1, 0);
        x.see(58, 2);
        due(20, "one alone", x.wanted(0, 0), 1);
        due(20, "42", x.wanted(0, 1), 42);
        x.see(100, 0);
        due(20, "as it is now", x.wanted(0, 1), 42);
        x.see(99, 4);
        due(20, "but not so", x.wanted(0, 0), 0);
        due(20, "none", x.wanted(0, 1), NOBODY);
        due(20, "it stays", x.of(0, 2), 30);
        x.see(-1, 0);
        x.see(70, 0);
        x.pass(1);
        due(20, "from the day on which it is asked", x.wanted(0, 0), 99);
        x.see(100, 10);
        due(20, "what it has does not hang on it", x.wanted(0, 0), 9);
        x.see(100, 3);
        due(20, "nor that it brings it back", x.wanted(0, 1), 91);
    }

    private static void can() {
        WellLendsDepth x = new WellLendsDepth();
        due(21, "nobody", x.can(0, 0), NONE);
        x.borrower(1, 7, 30, 20);
        due(21, "what", x.can(0, 2), NONE);
        due(21, "what below", x.can(0, -1), NONE);
        due(21, "all", x.can(0, 0), 10);
        due(21, "the least", x.can(0, 1), 0);
        x.see(70, 7);
        due(21, "it keeps it for 7 days or more", x.can(0, 0), 6);
        due(21, "from 4 on", x.can(0, 1), 4);
        x.see(100, 8);
        due(21, "and 7 alone", x.can(0, 0), 1);
        due(21, "by 4", x.can(0, 1), 4);
        x.see(1, 0);
        due(21, "none", x.can(0, 0), 0);
        due(21, "none is least", x.can(0, 1), NOBODY);
        due(21, "it stays", x.of(0, 1), 7);
    }

    private static void odds() {
        WellLendsDepth y = new WellLendsDepth();
        y.borrower(0, 0, 99, 1);
        due(22, "of one alone, if it does not come", y.odds(60, 0), 1);
        due(22, "of 1", y.odds(60, 1), 1);
        due(23, "0 of one alone", y.mean(60, 0), 0);
        WellLendsDepth x = new WellLendsDepth();
        due(22, "there are none", x.odds(0, 0), NO);
        x.borrower(0, 0, 60, 1);
        x.borrower(0, 0, 60, 1);
        x.borrower(0, 0, 20, 20);
        x.borrower(0, 0, 1, 20);
        due(22, "n below", x.odds(-1, 0), NO);
        due(22, "n above", x.odds(61, 0), NO);
        due(22, "part below", x.odds(0, -1), NO);
        due(22, "part above", x.odds(0, 2), NO);
        due(22, "in no day", x.odds(0, 0), 1);
        due(22, "of one", x.odds(0, 1), 1);
        due(22, "without one of two", x.odds(1, 0), 1);
        due(22, "of two", x.odds(1, 1), 2);
        x.depth(0);
        due(22, "never", x.odds(1, 0), 0);
        due(22, "of one", x.odds(1, 1), 1);
        x.depth(100);
        x.set(1, 1, 20);
        x.pass(1);
        // the first has 60, and it is brought back as told, though it does not come again
        due(22, "what it has goes on", x.odds(60, 0), 1);
        due(22, "of four", x.odds(60, 1), 2);
    }

    private static void mean() {
        WellLendsDepth x = new WellLendsDepth();
        due(23, "there are none", x.mean(0, 0), NO);
        x.borrower(0, 0, 30, 1);
        x.borrower(0, 0, 20, 20);
        x.borrower(0, 0, 1, 20);
        x.borrower(0, 0, 1, 20);
        due(23, "n below", x.mean(-1, 0), NO);
        due(23, "n above", x.mean(61, 1), NO);
        due(23, "part below", x.mean(0, -1), NO);
        due(23, "part above", x.mean(0, 2), NO);
        due(23, "0", x.mean(1, 0), 0);
        due(23, "of 1", x.mean(1, 1), 1);
        due(23, "5", x.mean(2, 0), 5);
        due(23, "of 4", x.mean(2, 1), 4);
        due(23, "10 of 4", x.mean(3, 0), 5);
        due(23, "lowest", x.mean(3, 1), 2);
    }

    private static void year() {
        WellLendsDepth x = new WellLendsDepth();
        due(24, "below", x.year(-2, 0), NONE);
        due(24, "above", x.year(3, 0), NONE);
        due(24, "nobody to call", x.year(1, 0), NONE);
        due(24, "a day by nobody", x.year(0, 99), 1);
        due(24, "deeper by nobody", x.year(2, -7), 2);
        x.borrower(0, 0, 1, 1);
        due(24, "one to call", x.year(1, 0), 3);
        due(24, "below one", x.year(1, -1), NONE);
        for (int i = 4; i <= 10; i++) {
            due(24, "row", x.year(0, 0), i);
        }
        due(24, "full", x.year(0, 0), FULL);
        due(24, "none ahead of full", x.year(1, 1), NONE);
        due(24, "empty", x.year(-1, 99), 0);
        due(24, "none", x.count(3), 0);
    }

    private static void gone() {
        WellLendsDepth x = three();
        due(25, "what", x.gone(2), NONE);
        due(25, "what below", x.gone(-1), NONE);
        due(25, "no row: depth", x.gone(0), 100);
        due(25, "no row: sent", x.gone(1), 0);
        x.year(0, 0);
        due(25, "a day", x.gone(0), 10);
        due(25, "sent", x.gone(1), 1);
        x.year(1, 1);
        due(25, "called in", x.gone(0), 70);
        x.year(1, 2);
        due(25, "one that has nothing", x.gone(0), 70);
        x.year(2, 0);
        due(25, "deeper", x.gone(0), 80);
        x.year(0, 0);
        due(25, "and one day more", x.gone(0), 20);
        due(25, "nobody more was sent", x.gone(1), 1);
        due(25, "nothing went", x.told(0), 0);
        x.depth(9995);
        x.year(-1, 0);
        x.year(2, 0);
        due(25, "9999 at most", x.gone(0), 9999);
    }

    private static void book() {
        WellLendsDepth x = new WellLendsDepth();
        due(26, "nobody", x.book(0, 100000), NONE);
        x.borrower(0, 0, 1, 1);
        due(26, "below", x.book(-2, 0), NONE);
        due(26, "owes below", x.book(0, -1), BAD);
        due(26, "owes above", x.book(0, 100000), BAD);
        for (int i = 1; i <= 8; i++) {
            due(26, "row", x.book(0, 99999), i);
        }
        due(26, "full", x.book(0, 0), FULL);
        due(26, "bad ahead of full", x.book(0, -1), BAD);
        due(26, "empty", x.book(-1, -9), 0);
        due(26, "none", x.count(4), 0);
    }

    private static void looked() {
        WellLendsDepth x = three();
        due(27, "no row", x.looked(), NOBODY);
        x.pass(2);
        x.book(1, 6);
        x.book(0, 3);
        due(27, "all so", x.looked(), NOBODY);
        x.book(2, 1);
        due(27, "the third is not", x.looked(), 2);
        x.pass(1);
        due(27, "now the first is not", x.looked(), 0);
    }

    private static void judge() {
        WellLendsDepth x = new WellLendsDepth();
        due(28, "tape below", x.judge(-1, 0), NONE);
        due(28, "tape above", x.judge(6, 0), NONE);
        due(28, "none to look at", x.judge(0, -1), NOBODY);
        x.tape(0, 3, 9);
        due(28, "longs, none to look at", x.judge(0, 0), CAST);
        x.borrower(0, 0, 30, 1);
        x.borrower(0, 0, 60, 1);
        x.borrower(0, 0, 9, 1);
        x.pass(1);
        due(28, "longs", x.judge(0, 0), CAST);
        due(28, "nothing", x.judge(1, 0), 100);
        x.tape(1, 2, 4);
        x.item(1, 1, 30);
        x.item(1, 2, 60);
        due(28, "all so", x.judge(1, 1), NOBODY);
        due(28, "the first is otherwise", x.judge(1, 0), 0);
        due(28, "below", x.judge(1, -1), 100);
        due(28, "far below", x.judge(1, Integer.MIN_VALUE), 100);
        due(28, "far above", x.judge(1, Integer.MAX_VALUE), 100);
        due(28, "at the end", x.judge(1, 4), 100);
        x.item(1, 3, 1);
        due(28, "the third is otherwise", x.judge(1, 1), 2);
        x.item(1, 2, 30);
        x.item(1, 3, 60);
        due(28, "the row ends behind two", x.judge(1, 2), 102);
        due(28, "and behind one, which is otherwise", x.judge(1, 3), 0);
    }

    private static void imageAndUndo() {
        WellLendsDepth x = new WellLendsDepth();
        due(30, "there is none", x.undo(), STATE);
        due(29, "of nobody", x.image(), 0);
        x.borrower(6, 1, 20, 2);
        x.row(0, 2, 7);
        x.borrower(0, 2, 30, 3);
        x.change(0, 1);
        x.pass(2);
        x.see(1, 1);
        x.year(2, 0);
        x.book(0, 2);
        feed(x, "mark 7");
        due(29, "of two", x.image(), 2);
        x.call(0);
        x.set(0, 0, 99);
        x.set(0, 1, 9);
        x.row(0, 2, 1);
        x.depth(500);
        x.pass(9);
        x.change(0, 1);
        x.borrower(5, 9, 99, 1);
        x.see(2, 2);
        x.year(0, 0);
        x.book(-1, 0);
        feed(x, "mark 8");
        x.feed('d');
        x.tape(3, 0, 2);
        x.act(0, 0, 1);
        due(30, "two again", x.undo(), 2);
        due(30, "count", x.count(0), 2);
        due(30, "the countries stay", x.count(1), 2);
        due(30, "the text stays", x.count(5), 1);
        due(30, "the trace stays", x.count(6), 2);
        due(30, "the tapes stay", x.read(3, 1), 0);
        due(30, "that holds which held", x.told(2), 7);
        due(30, "day", x.told(0), 2);
        due(30, "depth", x.told(1), 50);
        due(30, "line", x.told(10), 1);
        int[] first = {6, 1, 20, 2, 20, 2, 2, 0, 1, 27};
        for (int what = 0; what < 10; what++) {
            due(30, "of the first " + what, x.of(0, what), first[what]);
        }
        int[] second = {0, 2, 30, 3, 30, 2, 3, 0, 1, 30};
        for (int what = 0; what < 10; what++) {
            due(30, "of the second " + what, x.of(1, what), second[what]);
        }
        due(30, "seen", x.count(2), 1);
        due(30, "year", x.count(3), 1);
        due(30, "its row", x.gone(0), 60);
        due(30, "book", x.count(4), 1);
        due(30, "its row", x.looked(), NOBODY);
        due(30, "a new one is new", x.borrower(6, 0, 3, 1), 2);
        due(30, "so is its row", x.row(2, 0, 0), 0);
        x.pass(5);
        due(30, "once more", x.undo(), 2);
        due(30, "day once more", x.told(0), 2);
    }

    private static void undoOfAllRows() {
        WellLendsDepth x = new WellLendsDepth();
        for (int b = 0; b < 6; b++) {
            x.borrower(6, b, 20 + b, 1);
            for (int part = 0; part < 4; part++) {
                x.row(b, part, b + part);
            }
        }
        x.depth(60);
        x.pass(2);
        x.see(x.on(3, 0), 3);
        x.see(x.on(4, 0), 4);
        x.year(2, 0);
        x.year(1, 1);
        for (int b = 0; b < 6; b++) {
            x.book(b, x.of(b, 6));
        }
        int gone = x.gone(0);
        int wanted = x.wanted(1, 0);
        int[] sent = new int[6];
        for (int b = 0; b < 6; b++) {
            sent[b] = x.of(b, 7);
        }
        x.image();
        x.see(-1, 0);
        x.see(7, 1);
        x.see(8, 2);
        x.year(-1, 0);
        x.year(0, 0);
        x.year(1, 0);
        x.book(-1, 0);
        for (int b = 0; b < 6; b++) {
            x.book(5 - b, 9);
            for (int part = 0; part < 4; part++) {
                x.row(b, part, 9);
            }
        }
        x.pass(3);
        x.undo();
        due(30, "gone", x.gone(0), gone);
        due(30, "wanted", x.wanted(1, 0), wanted);
        due(30, "looked", x.looked(), NOBODY);
        for (int b = 0; b < 6; b++) {
            due(30, "sent", x.of(b, 7), sent[b]);
            due(30, "sent by now", sent[b], b < 2 ? 0 : 2);
            for (int part = 0; part < 4; part++) {
                due(30, "row of " + b, x.row(b, part, 0), b + part);
            }
        }
    }

    /** One that comes behind an undo has the number of one that is gone, and nothing of it. */
    private static void newBehindUndo() {
        WellLendsDepth x = new WellLendsDepth();
        x.image();
        x.borrower(6, 9, 20, 1);
        x.row(0, 0, 9);
        x.row(0, 1, 9);
        x.pass(3);
        x.depth(0);
        x.pass(2);
        due(2, "the old one was sent", x.of(0, 7), 1);
        due(2, "and owes", x.of(0, 6), 6);
        x.undo();
        x.borrower(6, 1, 20, 1);
        for (int what = 4; what <= 7; what++) {
            due(2, "nothing of " + what, x.of(0, what), 0);
        }
        due(5, "no row of it", x.row(0, 0, 0), 0);
        due(5, "nor that", x.row(0, 1, 0), 0);
        x.borrower(6, 1, 20, 1);
        x.pass(2);
        x.undo();
        x.borrower(6, 1, 20, 1);
        due(2, "has nothing", x.of(0, 4), 0);
        due(2, "left nothing", x.of(0, 5), 0);
    }

    private static void traced(WellLendsDepth x, int borrower, int act, int n, int answer, int... bodies) {
        due(31, "act " + act + " of " + borrower, x.act(borrower, act, n), answer);
        due(34, "bodies", x.count(6), bodies.length);
        for (int i = 0; i < bodies.length; i++) {
            due(32, "body " + i + " of act " + act + " of " + borrower, x.trace(i), bodies[i]);
        }
        due(32, "beyond", x.trace(bodies.length), NONE);
        due(32, "below", x.trace(-1), NONE);
    }

    private static void acts() {
        WellLendsDepth x = ofAllKinds();
        due(32, "none yet", x.trace(0), NONE);
        // LATE is 0 (v 2), GREEDY 1 (3), LOSING 2 (4), STRAY 3 (5), TAKING 4 (6), TOLD 5 (7)
        traced(x, 0, 0, 5, 5, 10);
        traced(x, 0, 1, 5, 3 ^ 6, 20, 11, 10);
        traced(x, 0, 2, 5, (3 ^ 6) * 2, 12, 20, 11, 10);
        traced(x, 1, 0, 5, 16, 30, 10);
        traced(x, 1, 2, 5, (16 - 3) * 2, 12, 11, 30, 10);
        traced(x, 2, 2, 5, (7 - 4) * 2 + (3 - 4), 40, 12, 11, 10, 11, 10);
        traced(x, 3, 0, 5, -8, 50, 10);
        traced(x, 3, 1, 5, (-9 - 5) ^ 6, 51, 20, 11, 50, 10);
        traced(x, 3, 2, 5, ((-9 - 5) ^ 6) * 2, 12, 51, 20, 11, 50, 10);
        traced(x, 4, 0, 5, 19, 30, 10);
        traced(x, 4, 2, 5, (7 - 6) * 2, 60, 12, 11, 30, 10);
        traced(x, 5, 0, 5, 10 ^ 7, 71, 10);
        traced(x, 5, 1, 5, (10 ^ 7) - 7 + 7, 70, 11, 71, 10, 10);
        traced(x, 5, 2, 5, 13 * 2 + ((6 ^ 7) - 7 + 7), 40, 12, 70, 11, 71, 10, 10, 70, 11, 71, 10, 10);
        traced(x, 1, 0, Integer.MAX_VALUE, Integer.MAX_VALUE - 1, 30, 10);
        traced(x, 6, 0, 5, 0);
        x.act(0, 0, 1);
        traced(x, -1, 0, 5, 0);
        x.act(0, 0, 1);
        traced(x, 0, 3, 5, 0);
        x.act(0, 0, 1);
        traced(x, 0, -1, 5, 0);
        WellLendsDepth y = new WellLendsDepth();
        y.borrower(0, 4, 1, 1);
        traced(y, 0, 2, 10, 12, 12, 11, 10);
    }

    private static void taken() {
        WellLendsDepth x = ofAllKinds();
        due(33, "k below", x.taken(9, -1), BAD);
        due(33, "k above", x.taken(9, 7), BAD);
        due(33, "nobody", x.taken(6, 0), NOTHING);
        due(33, "below nobody", x.taken(-1, 6), NOTHING);
        int[][] above = {{0, 1}, {0, 2}, {0, 3}, {0, 1, 4}, {0, 2, 5}, {0, 3, 6}};
        for (int b = 0; b < 6; b++) {
            for (int k = 0; k < 7; k++) {
                boolean under = false;
                for (int one : above[b]) {
                    under |= one == k;
                }
                due(33, b + " for " + k, x.taken(b, k), under ? b + 1 : CAST);
            }
        }
    }

    private static void count() {
        WellLendsDepth x = ofAllKinds();
        feed(x, "mark 1");
        feed(x, "mark 2");
        x.feed('m');
        for (int i = 0; i < 3; i++) {
            x.see(1, 1);
        }
        for (int i = 0; i < 4; i++) {
            x.year(0, 0);
        }
        for (int i = 0; i < 5; i++) {
            x.book(0, 0);
        }
        x.act(5, 2, 1);
        int[] counts = {6, 2, 3, 4, 5, 1, 12};
        for (int what = 0; what < 7; what++) {
            due(34, "what " + what, x.count(what), counts[what]);
        }
        due(34, "below", x.count(-1), BAD);
        due(34, "above", x.count(7), BAD);
    }

    private static void tape() {
        WellLendsDepth x = new WellLendsDepth();
        due(35, "tape below", x.tape(-1, 9, 99), NONE);
        due(35, "tape above", x.tape(6, 0, -1), NONE);
        due(35, "sort below", x.tape(0, -2, 0), BAD);
        due(35, "sort above", x.tape(0, 5, -1), BAD);
        due(35, "n above", x.tape(0, 0, 61), BAD);
        due(35, "n below", x.tape(0, 0, -1), SIZE);
        due(35, "nothing came", x.read(0, 0), NO);
        for (int sort = 0; sort < 5; sort++) {
            due(35, "sort " + sort, x.tape(sort, sort, 60), 1);
            due(35, "all 0", x.read(sort, 59), 0);
            x.item(sort, 7, 1);
            due(35, "again", x.tape(sort, sort, 10), 1);
            due(35, "all 0 again", x.read(sort, 7), 0);
            due(35, "shorter", x.read(sort, 10), NO);
        }
        due(35, "refused", x.tape(2, 5, 1), BAD);
        due(35, "it stays", x.read(2, 0), 0);
        due(35, "nothing", x.tape(2, -1, 9999), 1);
        due(35, "is there", x.read(2, 0), NO);
        due(35, "none long", x.tape(2, 2, 0), 1);
        due(35, "has no place", x.item(2, 0, 0), PLACE);
    }

    private static void itemAndRead() {
        WellLendsDepth x = new WellLendsDepth();
        due(36, "tape below", x.item(-1, 0, 0), NONE);
        due(36, "tape above", x.item(6, 0, 0), NONE);
        due(36, "nothing", x.item(0, -1, 0), NOTHING);
        due(37, "tape below", x.read(-1, 0), NO);
        due(37, "tape above", x.read(6, 0), NO);
        due(37, "nothing", x.read(0, 0), NO);
        long v = 0x123456789ABCDEF0L;
        long[] kept = {(byte) 0xF0, (short) 0xDEF0, 0x9ABCDEF0, v, 1};
        for (int sort = 0; sort < 5; sort++) {
            x.tape(sort, sort, 3);
            due(36, "below", x.item(sort, -1, v), PLACE);
            due(36, "above", x.item(sort, 3, v), PLACE);
            due(36, "item", x.item(sort, 2, v), 1);
            due(37, "is kept", x.read(sort, 2), kept[sort]);
            due(37, "beside it", x.read(sort, 1), 0);
            due(37, "below", x.read(sort, -1), NO);
            due(37, "above", x.read(sort, 3), NO);
        }
        x.item(4, 0, 1L << 40);
        due(36, "whether it is not 0", x.read(4, 0), 1);
        x.item(4, 0, 0);
        due(36, "it is 0", x.read(4, 0), 0);
        x.item(3, 0, NO);
        due(37, "the least of longs", x.read(3, 0), NO);
    }

    private static void shift() {
        WellLendsDepth x = new WellLendsDepth();
        x.tape(0, 2, 5);
        x.tape(1, 2, 3);
        x.tape(2, 3, 3);
        due(38, "tape below", x.shift(-1, 0, 0, 0, 0), NONE);
        due(38, "other above", x.shift(5, 0, 6, 0, 0), NONE);
        due(38, "nothing", x.shift(5, 0, 0, 0, -1), NOTHING);
        due(38, "nothing in the other", x.shift(2, 0, 5, 0, -1), NOTHING);
        due(38, "unlike", x.shift(0, 0, 2, 0, -1), CAST);
        due(38, "n below", x.shift(0, 0, 1, 0, -1), PLACE);
        due(38, "i below", x.shift(0, -1, 1, 0, 1), PLACE);
        due(38, "j below", x.shift(0, 0, 1, -1, 1), PLACE);
        due(38, "beyond its end", x.shift(1, 2, 0, 0, 2), PLACE);
        due(38, "beyond the other's end", x.shift(0, 0, 1, 2, 2), PLACE);
        due(38, "far beyond", x.shift(0, Integer.MAX_VALUE, 1, 0, Integer.MAX_VALUE), PLACE);
        due(38, "none at the end", x.shift(0, 5, 1, 3, 0), 0);
        due(38, "none beyond", x.shift(0, 6, 1, 0, 0), PLACE);
        for (int i = 0; i < 5; i++) {
            x.item(0, i, i + 1);
        }
        due(38, "to another", x.shift(0, 1, 1, 0, 3), 3);
        due(38, "came", x.read(1, 2), 4);
        due(38, "stays", x.read(0, 1), 2);
        due(38, "to itself, on", x.shift(0, 0, 0, 1, 4), 4);
        int[] on = {1, 1, 2, 3, 4};
        for (int i = 0; i < 5; i++) {
            due(38, "as they all were", x.read(0, i), on[i]);
        }
        due(38, "to itself, back", x.shift(0, 2, 0, 0, 3), 3);
        int[] back = {2, 3, 4, 3, 4};
        for (int i = 0; i < 5; i++) {
            due(38, "as they were", x.read(0, i), back[i]);
        }
    }

    private static void constants() {
        due(0, "NONE", WellLendsDepth.NONE, NONE);
        due(0, "BAD", WellLendsDepth.BAD, BAD);
        due(0, "STATE", WellLendsDepth.STATE, STATE);
        due(0, "FULL", WellLendsDepth.FULL, FULL);
        due(0, "NO", WellLendsDepth.NO, NO);
    }

    public static void main(String[] args) {
        constants();
        newObject();
        borrower();
        of();
        set();
        row();
        depth();
        change();
        call();
        feed();
        country();
        told();
        pass();
        on();
        lowest();
        first();
        best();
        seldom();
        more();
        see();
        wanted();
        can();
        odds();
        mean();
        year();
        gone();
        book();
        looked();
        judge();
        imageAndUndo();
        undoOfAllRows();
        newBehindUndo();
        acts();
        taken();
        count();
        tape();
        itemAndRead();
        shift();
        System.out.println(looked + " answers looked at, " + wrong + " of them wrong");
        System.exit(wrong == 0 ? 0 : 1);
    }
}
