import java.lang.reflect.InvocationTargetException;
import java.lang.reflect.Method;
import java.util.ArrayList;
import java.util.List;
import java.util.Random;

/** Random runs of at most 512 calls, each answered by the program and by the Model; seeds are fixed. */
public final class ModelTest {
    private static final String[] CALLS = {
        "borrower kind v wants every", "of who what12", "set who bit every", "row who part v", "depth depth",
        "change who who", "call who", "feed sign", "country", "told told", "pass days", "on asked on",
        "lowest asked bit", "first", "best best", "seldom who", "more twelve", "see seen ten", "wanted who bit",
        "can who bit", "odds asked bit", "mean asked bit", "year yearly who", "gone bit", "book booked owes",
        "looked", "judge tape place", "image", "undo", "act who three any", "trace place", "taken who kind",
        "count seven", "tape tape sort size", "item tape place long", "read tape place",
        "shift tape place tape place size"};
    /** How often each goes, beside others: dear or state-changing ones have their own weight. */
    private static final int[] WEIGHTS = {
        4, 8, 3, 4, 3, 4, 4, 2, 2, 6, 6, 8, 3, 3, 4, 2, 3, 5, 3, 3, 4, 4, 6, 4, 5, 4, 8, 2, 2, 6, 5, 4, 6, 5, 8, 6, 6};
    private static final int[] WILD = {
        Integer.MIN_VALUE, Integer.MAX_VALUE, -1, 0, Integer.MIN_VALUE + 10, Integer.MAX_VALUE - 4, -2, 100, 61, 10000};
    private static final String SIGNS = "dearchpmkspingfine 0123456789<=>bkvhld()!&|;x";

    private final Random random;
    private final Model model = new Model();
    private final WellLendsDepth well = new WellLendsDepth();
    private final List<String> log = new ArrayList<>();
    private int left = 512;

    private ModelTest(long seed) {
        random = new Random(seed);
    }

    private int upTo(int n) {
        return random.nextInt(n + 1);
    }

    private int number(String sort) {
        if (random.nextInt(40) == 0) {
            return WILD[random.nextInt(WILD.length)];
        }
        switch (sort) {
            case "kind": return upTo(7) - (random.nextInt(30) == 0 ? 1 : 0);
            case "v": return upTo(10) - (random.nextInt(10) == 0 ? 1 : 0);
            case "wants": return random.nextInt(4) == 0 ? upTo(100) : 1 + upTo(30);
            case "every": return random.nextInt(3) == 0 ? upTo(21) : 1 + upTo(4);
            case "who": return random.nextInt(20) == 0 ? upTo(8) - 1 : upTo(5);
            case "what12": return upTo(13);
            case "part": return upTo(4);
            case "bit": return random.nextInt(12) == 0 ? 2 : upTo(1);
            case "depth": return random.nextInt(8) == 0 ? upTo(9999) : upTo(200);
            case "sign": return upTo(127);
            case "told": return random.nextInt(2) == 0 ? upTo(6) : 10 + upTo(6);
            case "days": return random.nextInt(6) == 0 ? upTo(60) : upTo(4);
            case "asked": return random.nextInt(3) == 0 ? 60 : upTo(60);
            case "on": return random.nextInt(3) == 0 ? upTo(26) : new int[] {0, 1, 2, 10 + upTo(5), 20 + upTo(5)}[upTo(4)];
            case "best": return upTo(4);
            case "twelve": return upTo(13);
            case "seen": return seenDepth();
            case "ten": return random.nextInt(3) == 0 ? upTo(11) : upTo(3);
            case "yearly": return random.nextInt(12) == 0 ? -1 : upTo(3);
            case "booked": return random.nextInt(8) == 0 ? -1 : upTo(5);
            case "owes": return random.nextInt(4) == 0 ? upTo(100001) : model.of(upTo(5), 6);
            case "tape": return random.nextInt(20) == 0 ? upTo(7) - 1 : upTo(5);
            case "place": return random.nextInt(4) == 0 ? upTo(61) - 1 : upTo(6);
            case "three": return random.nextInt(15) == 0 ? 3 : upTo(2);
            case "seven": return upTo(7);
            case "sort": return random.nextInt(3) == 0 ? 2 : upTo(6) - 1;
            case "size": return random.nextInt(6) == 0 ? upTo(62) - 1 : upTo(12);
            default: return random.nextInt();
        }
    }

    /** What is so in truth, by and by, and what is not. */
    private int seenDepth() {
        if (random.nextInt(8) == 0) {
            return upTo(200) - 1;
        }
        if (random.nextInt(4) == 0) {
            return -1;
        }
        return model.on(upTo(3), 0);
    }

    private long call(String call, Object target, Object... values) {
        for (Method method : target.getClass().getMethods()) {
            if (method.getName().equals(call) && method.getParameterCount() == values.length) {
                try {
                    return ((Number) method.invoke(target, values)).longValue();
                } catch (IllegalAccessException | InvocationTargetException e) {
                    throw new IllegalStateException(target.getClass() + " " + call + List.of(values) + " after " + log, e);
                }
            }
        }
        throw new IllegalStateException("no call " + call);
    }

    private void both(String call, Object... values) {
        if (left == 0) {
            return;
        }
        left--;
        log.add(call + List.of(values));
        long due = call(call, model, values);
        long got = call(call, well, values);
        if (got != due) {
            throw new IllegalStateException("answered " + got + ", due is " + due + ": " + log);
        }
    }

    private void feedText(String text) {
        for (int i = 0; i < text.length(); i++) {
            both("feed", (int) text.charAt(i));
        }
        both("country");
    }

    private String anyCountry() {
        StringBuilder text = new StringBuilder();
        int clauses = 1 + upTo(random.nextInt(10) == 0 ? 10 : 4);
        for (int i = 0; i < clauses; i++) {
            text.append(i == 0 ? "" : ";").append(anyClause());
        }
        int slip = random.nextInt(3);
        if (slip == 0 && text.length() > 0) {
            int at = random.nextInt(text.length());
            char sign = SIGNS.charAt(random.nextInt(SIGNS.length()));
            switch (random.nextInt(3)) {
                case 0: text.setCharAt(at, sign); break;
                case 1: text.insert(at, sign); break;
                default: text.setLength(at); break;
            }
        }
        text.setLength(Math.min(102, text.length()));
        return text.toString();
    }

    private String anyClause() {
        int n = random.nextInt(3) == 0 ? upTo(99) : upTo(9);
        String digits = random.nextInt(8) == 0 && n < 10 ? "0" + n : "" + n;
        switch (random.nextInt(7)) {
            case 0: return "mark " + digits;
            case 1: return "spring " + digits;
            case 2: return "fine " + digits;
            case 3: return "cheap " + digits + " " + anyCondition(upTo(4));
            default: return "dear " + digits + " " + anyCondition(upTo(4));
        }
    }

    private String anyCondition(int size) {
        switch (random.nextInt(size == 0 ? 1 : 5)) {
            case 1: return anyCondition(size - 1) + "&" + anyCondition(size - 1);
            case 2: return anyCondition(size - 1) + "|" + anyCondition(size - 1);
            case 3: return "!" + anyCondition(size - 1);
            case 4: return "(" + anyCondition(size - 1) + ")";
            default:
                return "" + "bkvhld".charAt(random.nextInt(6)) + "<=>".charAt(random.nextInt(3))
                    + (random.nextInt(10) == 0 ? upTo(99) : upTo(9));
        }
    }

    private void anyCall() {
        int sum = 0;
        for (int weight : WEIGHTS) {
            sum += weight;
        }
        int pick = random.nextInt(sum);
        int which = 0;
        while (pick >= WEIGHTS[which]) {
            pick -= WEIGHTS[which];
            which++;
        }
        String[] words = CALLS[which].split(" ");
        Object[] values = new Object[words.length - 1];
        for (int i = 1; i < words.length; i++) {
            values[i - 1] = words[i].equals("long") ? (Object) random.nextLong() : (Object) number(words[i]);
        }
        both(words[0], values);
    }

    private void tapeOfAll() {
        int tape = upTo(5);
        int from = upTo(3);
        both("tape", tape, 2, from + upTo(7));
        for (int b = 0; b < 6; b++) {
            both("item", tape, from + b, (long) model.of(b, 4) + (random.nextInt(12) == 0 ? 1L << 32 : 0));
        }
        both("judge", tape, from);
    }

    private void seeTruth() {
        both("see", -1, 0);
        int who = upTo(5);
        for (int i = 0; i < 3; i++) {
            int behind = upTo(10);
            both("see", model.on(behind, 0), behind);
            both("wanted", who, upTo(1));
            both("can", who, upTo(1));
        }
    }

    private void run() {
        for (int i = upTo(6); i > 0; i--) {
            both("borrower", upTo(6), upTo(9), 1 + upTo(40), 1 + upTo(5));
        }
        while (left > 0) {
            int pick = random.nextInt(60);
            if (pick == 0) {
                feedText(anyCountry());
            } else if (pick == 1) {
                tapeOfAll();
            } else if (pick == 2) {
                seeTruth();
            } else {
                anyCall();
            }
        }
    }

    public static void main(String[] args) {
        int runs = args.length > 0 ? Integer.parseInt(args[0]) : 400;
        long from = args.length > 1 ? Long.parseLong(args[1]) : 0;
        int wrong = 0;
        for (int seed = 0; seed < runs && wrong < 5; seed++) {
            try {
                new ModelTest(from + seed).run();
            } catch (IllegalStateException e) {
                wrong++;
                e.printStackTrace(System.out);
            }
        }
        System.out.println(runs + " random runs, " + wrong + " of them wrong");
        System.exit(wrong == 0 ? 0 : 1);
    }
}
