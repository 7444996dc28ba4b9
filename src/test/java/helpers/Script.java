import java.lang.reflect.InvocationTargetException;
import java.lang.reflect.Method;
import java.util.Arrays;
import java.util.HashMap;
import java.util.Map;

/** Calls written as lines of a name and numbers, so that the program and the Model can both be asked them. */
final class Script {
    /** Nothing has come: no call at all. */
    static final String[] FRESH = {};

    /** Something of everything, and nothing full: whoever changes something here is seen to have done it. */
    static final String[] LIVELY = {
        "text mark 7;spring 1;fine 2;dear 3 h>0", "country",
        "borrower 6 2 20 2", "borrower 4 1 15 1", "borrower 5 3 30 3", "borrower 0 0 12 1",
        "row 0 0 1", "row 0 1 2", "row 0 2 3", "row 0 3 4",
        "pass 3", "change 0 2", "see 60 2", "year 2 0", "year 0 0", "year 1 1", "book 1 3", "book 0 9",
        "tape 0 2 4", "item 0 1 21", "item 0 2 15", "tape 1 0 3", "item 1 2 77", "tape 2 3 2", "item 2 0 5",
        "tape 3 4 2", "item 3 1 1", "tape 4 1 1", "item 4 0 9",
        "image", "pass 2", "see 70 1", "year 0 0", "book 3 1", "set 3 0 11", "act 0 2 5", "text mark 8"};

    /** All that has a most has it. */
    static final String[] FULL = {
        "text mark 1", "country", "text mark 2", "country", "text mark 3", "country",
        "text mark 4", "country", "text mark 5", "country", "text spring 2;dear 5 b=0", "country",
        "borrower 1 2 10 1", "borrower 2 3 11 2", "borrower 3 4 12 3", "borrower 4 5 13 4",
        "borrower 5 6 14 5", "borrower 6 7 15 6",
        "see 40 0", "see 41 1", "see 42 2", "see 43 3", "see 44 4",
        "year 0 0", "year 1 0", "year 2 0", "year 0 0", "year 1 5", "year 2 0", "year 0 0", "year 1 2", "year 0 0",
        "year 2 0",
        "book 0 1", "book 1 2", "book 2 3", "book 3 4", "book 4 5", "book 5 6", "book 0 7", "book 1 8",
        "tape 0 2 6", "tape 5 2 1", "image", "pass 5", "act 5 2 1",
        "text mark 1;mark 2;mark 3;mark 4;mark 5;mark 6;mark 7;mark 8;mark 9;dear 1 b=00|b=00|b=00|b=0|b=0|b=0|b=0"};

    private static final Map<String, Method> METHODS = new HashMap<>();

    private Script() {
    }

    static long call(Object target, String name, Object... values) {
        Method method = METHODS.computeIfAbsent(target.getClass().getName() + " " + name + values.length,
            key -> methodOf(target, name, values.length));
        try {
            return ((Number) method.invoke(target, values)).longValue();
        } catch (IllegalAccessException | InvocationTargetException e) {
            throw new IllegalStateException(target.getClass() + " " + name + Arrays.toString(values), e);
        }
    }

    private static Method methodOf(Object target, String name, int count) {
        for (Method method : target.getClass().getMethods()) {
            if (method.getName().equals(name) && method.getParameterCount() == count) {
                return method;
            }
        }
        throw new IllegalStateException("no call " + name);
    }

    /** Plays the lines; "text .." feeds sign by sign. Answers how many calls that were. */
    static int play(Object target, String... lines) {
        int calls = 0;
        for (String line : lines) {
            if (line.startsWith("text ")) {
                for (char sign : line.substring(5).toCharArray()) {
                    call(target, "feed", (int) sign);
                    calls++;
                }
            } else {
                playOne(target, line.split(" "));
                calls++;
            }
        }
        return calls;
    }

    private static void playOne(Object target, String[] words) {
        Object[] values = new Object[words.length - 1];
        for (int i = 1; i < words.length; i++) {
            values[i - 1] = words[0].equals("item") && i == 3 ? (Object) Long.valueOf(words[i]) : Integer.valueOf(words[i]);
        }
        call(target, words[0], values);
    }

    static WellLendsDepth well(String... lines) {
        WellLendsDepth x = new WellLendsDepth();
        play(x, lines);
        return x;
    }

    /** A well in a country. */
    static WellLendsDepth in(String country) {
        return well("text " + country, "country");
    }

    /** Feeds a text and reads it. */
    static int read(WellLendsDepth x, String text) {
        play(x, "text " + text);
        return x.country();
    }
}
