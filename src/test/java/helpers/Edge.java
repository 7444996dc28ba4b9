import java.util.HashSet;
import java.util.List;
import java.util.Set;

/** What the edges share: the sentence that is looked at, the answers that are due, and that a refusal changes nothing. */
abstract class Edge {
    static final int NONE = -1, BAD = -2, STATE = -3, FULL = -4, NOBODY = -5;
    static final int NOTHING = -11, CAST = -12, PLACE = -13, SIZE = -14;
    static final long NO = Long.MIN_VALUE;
    static final int LEAST = Integer.MIN_VALUE, MOST = Integer.MAX_VALUE;
    static final int BORROWER = 0, LATE = 1, GREEDY = 2, LOSING = 3, STRAY = 4, TAKING = 5, TOLD = 6;
    private static final int MOST_CALLS = 512;

    private static final Sentences SENTENCES = Sentences.ofDocument();
    private static final Set<Integer> PROMISES = new HashSet<>();
    private static int promise = 0;
    private static String sentence = "";
    private static int answers = 0;
    private static int sentences = 0;
    private static int wrong = 0;

    interface Call {
        long of(WellLendsDepth x);
    }

    private static void tell(String what) {
        wrong++;
        System.out.println("promise " + promise + ", \"" + sentence + "\": " + what);
    }

    /** From here on the tests are of this sentence, which the document has word for word. */
    static void says(int itsPromise, String itsSentence) {
        promise = itsPromise;
        sentence = itsSentence;
        sentences++;
        PROMISES.add(itsPromise);
        if (SENTENCES.isThere() && !SENTENCES.quote(itsPromise, itsSentence)) {
            tell("the document does not say so");
        }
    }

    static void due(String what, long got, long want) {
        answers++;
        if (got != want) {
            tell(what + " answered " + got + ", due is " + want);
        }
    }

    /** A call that is refused, or that only asks: beside a well that was not asked, nothing is otherwise behind it. */
    static void still(String what, long want, String[] lines, Call call) {
        WellLendsDepth x = new WellLendsDepth();
        WellLendsDepth beside = new WellLendsDepth();
        int calls = Script.play(x, lines);
        Script.play(beside, lines);
        due(what, call.of(x), want);
        List<String> seen = Sight.of(x);
        List<String> as = Sight.of(beside);
        if (calls + 1 + seen.size() > MOST_CALLS) {
            tell(what + ": too many calls to see what it changed: " + (calls + 1 + seen.size()));
        }
        for (int i = 0; i < Math.min(seen.size(), as.size()); i++) {
            if (!seen.get(i).equals(as.get(i))) {
                tell(what + " changed something: " + seen.get(i) + ", without it " + as.get(i));
                return;
            }
        }
        if (seen.size() != as.size()) {
            tell(what + " changed something");
        }
    }

    /** A call that only asks answers the same however often, and nothing is otherwise behind it. */
    static void asks(String what, Call call) {
        for (String[] lines : new String[][] {Script.FRESH, Script.LIVELY, Script.FULL}) {
            still(what, call.of(Script.well(lines)), lines, call);
        }
    }

    /** Refused whatever state it finds. */
    static void refusedAlways(String what, long want, Call call) {
        still(what + " of a new one", want, Script.FRESH, call);
        still(what, want, Script.LIVELY, call);
        still(what + " of a full one", want, Script.FULL, call);
    }

    /** Refused where there are borrowers. */
    static void refused(String what, long want, Call call) {
        still(what, want, Script.LIVELY, call);
        still(what + " of a full one", want, Script.FULL, call);
    }

    /** Whether all promises have edges and each sentence of the document is quoted. */
    static boolean allHolds() {
        if (SENTENCES.isThere()) {
            for (int i = 1; i <= SENTENCES.promises(); i++) {
                if (!PROMISES.contains(i)) {
                    wrong++;
                    System.out.println("no edge of promise " + i);
                }
            }
            for (String piece : SENTENCES.unquoted()) {
                wrong++;
                System.out.println("stands beside no test: " + piece);
            }
        } else {
            System.out.println("../shared/DOC.md is not here: whether it has these sentences was not looked at");
        }
        System.out.println(sentences + " sentences, " + answers + " answers looked at, " + wrong + " of them wrong");
        return wrong == 0;
    }
}
