import java.util.Arrays;
import java.util.LinkedHashMap;
import java.util.Map;

/**
 * Every call with every mix of numbers on both sides of the document's bounds and of the machine's, in a new well, a
 * lively and a full one: it is answered as the Model answers, and nothing is thrown.
 */
public final class SweepTest {
    private static final int MOST_CALLS = 512;
    private static final Map<String, long[]> EDGES = new LinkedHashMap<>();
    private static final String[] CALLS = {
        "borrower kind v wants every", "of who what", "set who bit n", "row who part v", "depth depth",
        "change who who", "call who", "feed sign", "country", "told what", "pass days", "on days what",
        "lowest days bit", "first", "best part", "seldom who", "more twelve", "see depth ten", "wanted who bit",
        "can who bit", "odds days bit", "mean days bit", "year part who", "gone bit", "book who owes", "looked",
        "judge tape place", "image", "undo", "act who part any", "trace place", "taken who kind", "count kind",
        "tape tape sort place", "item tape place long", "read tape place", "shift tape place tape place size"};
    private static long answers = 0;
    private static int wrong = 0;

    private final String[] lines;
    private Model model;
    private WellLendsDepth well;
    private int left = 0;

    private SweepTest(String[] lines) {
        this.lines = lines;
    }

    private static void edges(String sort, long... numbers) {
        long[] all = Arrays.copyOf(numbers, numbers.length + 2);
        all[numbers.length] = Integer.MIN_VALUE;
        all[numbers.length + 1] = Integer.MAX_VALUE;
        EDGES.put(sort, all);
    }

    private static void allEdges() {
        edges("kind", -1, 0, 1, 2, 3, 4, 5, 6, 7);
        edges("v", -1, 0, 9, 10);
        edges("wants", 0, 1, 99, 100);
        edges("every", 0, 1, 20, 21);
        edges("n", -1, 0, 1, 20, 21, 99, 100);
        edges("who", -2, -1, 0, 1, 2, 3, 4, 5, 6);
        edges("what", -2, -1, 0, 1, 2, 3, 4, 5, 6, 7, 8, 9, 10, 11, 12, 13, 14, 15, 16, 19, 20, 21, 23, 24, 25, 26, 30,
            Integer.MIN_VALUE + 9, Integer.MIN_VALUE + 10, Integer.MIN_VALUE + 20, Integer.MAX_VALUE - 1);
        edges("bit", -1, 0, 1, 2);
        edges("part", -1, 0, 1, 2, 3, 4);
        edges("depth", -2, -1, 0, 1, 100, 9998, 9999, 10000);
        edges("sign", -1, 0, 1, ' ', '0', 'm', 126, 127, 128, 255, 256);
        edges("days", -1, 0, 1, 59, 60, 61);
        edges("twelve", -1, 0, 1, 11, 12, 13);
        edges("ten", -1, 0, 1, 9, 10, 11);
        edges("owes", -1, 0, 1, 99998, 99999, 100000);
        edges("tape", -1, 0, 1, 2, 4, 5, 6);
        edges("sort", -2, -1, 0, 1, 2, 3, 4, 5);
        edges("place", -1, 0, 1, 4, 5, 6, 20, 59, 60, 61, Integer.MAX_VALUE - 5);
        edges("size", -1, 0, 1, 2, 6, 61, Integer.MAX_VALUE - 3);
        edges("any", -1, 0, 1, 715827882, 1 << 30, -(1 << 30));
        edges("long", -1, 0, 1, 2, 127, 128, 255, 256, 32768, 65536, 1L << 31, 1L << 32, Long.MIN_VALUE, Long.MAX_VALUE);
    }

    private void anew() {
        model = new Model();
        well = new WellLendsDepth();
        Script.play(model, lines);
        left = MOST_CALLS - Script.play(well, lines);
    }

    private void ask(String name, Object[] values) {
        if (left == 0) {
            anew();
        }
        left--;
        answers++;
        long due = Script.call(model, name, values);
        long got = Script.call(well, name, values);
        if (got != due) {
            wrong++;
            System.out.println(name + Arrays.toString(values) + " answered " + got + ", due is " + due);
        }
    }

    private void allOf(String call) {
        String[] words = call.split(" ");
        Object[] values = new Object[words.length - 1];
        fill(words, values, 0);
    }

    private void fill(String[] words, Object[] values, int at) {
        if (at == values.length) {
            ask(words[0], values);
            return;
        }
        for (long number : EDGES.get(words[at + 1])) {
            if (words[at + 1].equals("long")) {
                values[at] = number;
            } else {
                values[at] = (int) number;
            }
            fill(words, values, at + 1);
        }
    }

    public static void main(String[] args) {
        allEdges();
        for (String[] lines : new String[][] {Script.FRESH, Script.LIVELY, Script.FULL}) {
            for (String call : CALLS) {
                SweepTest sweep = new SweepTest(lines);
                sweep.anew();
                sweep.allOf(call);
            }
        }
        System.out.println(answers + " answers looked at, " + wrong + " of them wrong");
        System.exit(wrong == 0 ? 0 : 1);
    }
}
