import java.io.IOException;
import java.lang.management.ManagementFactory;
import java.lang.reflect.Field;
import java.lang.reflect.Method;
import java.lang.reflect.Modifier;
import java.nio.file.Files;
import java.nio.file.Path;
import java.util.ArrayDeque;
import java.util.ArrayList;
import java.util.Arrays;
import java.util.Deque;
import java.util.List;
import java.util.Set;
import java.util.TreeSet;
import java.util.regex.Matcher;
import java.util.regex.Pattern;

/** Looks at the program's one file for what the language's rules leave out, and at what calls make. */
public final class LanguageTest {
    private static final String[] FACE = {
        "int borrower 4", "int of 2", "int set 3", "int row 3", "int depth 1", "int change 2", "int call 1",
        "int feed 1", "int country 0", "int told 1", "int pass 1", "int on 2", "int lowest 2", "int first 0",
        "int best 1", "int seldom 1", "int more 1", "int see 2", "int wanted 2", "int can 2", "long odds 2",
        "long mean 2", "int year 2", "int gone 1", "int book 2", "int looked 0", "int judge 2", "int image 0",
        "int undo 0", "int act 3", "int trace 1", "int taken 2", "int count 1", "int tape 3", "int item 3",
        "long read 2", "int shift 5"};
    private static final String[] RULED_OUT = {
        "throw", "throws", "try", "catch", "finally", "synchronized", "assert", "import", "package", "->", "::",
        "Exact", "System\\.(?!arraycopy)", "Math\\.random", "Thread", "Runnable", "hashCode", "equals", "toString",
        "volatile", "native", "double", "float", "protected", "Integer\\.", "Object\\b", "goto", "var", "yield"};
    private static int wrong = 0;

    private static void due(String what, boolean holds) {
        if (!holds) {
            wrong++;
            System.out.println("not so: " + what);
        }
    }

    private static void face() {
        Set<String> due = new TreeSet<>(Arrays.asList(FACE));
        Set<String> names = new TreeSet<>();
        Set<String> is = new TreeSet<>();
        for (Method m : WellLendsDepth.class.getDeclaredMethods()) {
            if (Modifier.isPublic(m.getModifiers())) {
                is.add(m.getReturnType() + " " + m.getName() + " " + m.getParameterCount());
                names.add(m.getName());
            }
        }
        due("the methods of the face: " + is, is.equals(due));
        List<Class<?>> all = new ArrayList<>(List.of(WellLendsDepth.class.getDeclaredClasses()));
        due("twelve classes at most", all.size() < 12);
        for (Class<?> c : all) {
            due(c + " is static", Modifier.isStatic(c.getModifiers()) && !Modifier.isPublic(c.getModifiers()));
        }
        all.add(WellLendsDepth.class);
        for (Class<?> c : all) {
            members(c, names);
        }
        due("final", Modifier.isFinal(WellLendsDepth.class.getModifiers()));
        due("one constructor", WellLendsDepth.class.getConstructors().length == 1);
    }

    private static void members(Class<?> c, Set<String> publicNames) {
        int fields = 0;
        for (Field f : c.getDeclaredFields()) {
            int m = f.getModifiers();
            boolean constant = Modifier.isStatic(m) && Modifier.isFinal(m);
            fields += constant ? 0 : 1;
            due("static means final: " + f, !Modifier.isStatic(m) || constant);
            if (c == WellLendsDepth.class) {
                due("private or of the face: " + f,
                    Modifier.isPrivate(m) || Set.of("NONE", "BAD", "STATE", "FULL", "NO").contains(f.getName()));
            }
        }
        due("some twenty fields in " + c, fields <= 20);
        for (Method m : c.getDeclaredMethods()) {
            boolean isPublic = Modifier.isPublic(m.getModifiers());
            due("seven parameters at most: " + m, m.getParameterCount() <= 7);
            due("no other bears a public name: " + m, isPublic || !publicNames.contains(m.getName()));
            due("public or private: " + m, c != WellLendsDepth.class || isPublic || Modifier.isPrivate(m.getModifiers()));
        }
    }

    /** The code without its comments, texts and signs. */
    private static String bare(String source) {
        return source.replaceAll("(?s)/\\*.*?\\*/", "").replaceAll("//[^\n]*", "")
            .replaceAll("\"[^\"\n]*\"", "\"\"").replaceAll("'[^'\n]'", "' '");
    }

    private static void words(String code) {
        for (String word : RULED_OUT) {
            String pattern = Character.isLetter(word.charAt(0)) ? "\\b" + word : word;
            pattern += Character.isLetter(word.charAt(word.length() - 1)) ? "\\b" : "";
            Matcher m = Pattern.compile(pattern).matcher(code);
            due("none of " + word, !m.find());
        }
        due("no joining of texts by +", !Pattern.compile("\"\"\\s*\\+|\\+\\s*\"\"").matcher(code).find());
        due("signs of 1 to 127 alone", code.chars().allMatch(c -> c > 0 && c < 128));
    }

    private static void methodsAreShort(String code) {
        String[] lines = code.split("\n");
        Deque<Integer> begun = new ArrayDeque<>();
        for (int i = 0; i < lines.length; i++) {
            String line = lines[i];
            boolean begins = line.matches("\\s+(public|private|static|int|long|boolean|void|String)\\b.*\\).*\\{");
            if (begins) {
                begun.push(i);
            }
            boolean closes = line.matches("( {4}| {8})\\}");
            if (closes && !begun.isEmpty()) {
                int from = begun.pop();
                due("some sixty lines: " + lines[from].trim(), i - from <= 60);
            }
        }
    }

    private static void loopsHaveEnds(String code) {
        due("no for without a bound", !Pattern.compile("for\\s*\\(\\s*;|;\\s*;").matcher(code).find());
        due("no while (true)", !Pattern.compile("while\\s*\\(\\s*true").matcher(code).find());
    }

    /** All calls of a run share one room, so a call makes nothing: its host counts bytes by thread. */
    private static void callsMakeNothing() {
        com.sun.management.ThreadMXBean bean = (com.sun.management.ThreadMXBean) ManagementFactory.getThreadMXBean();
        long id = Thread.currentThread().getId();
        long least = Long.MAX_VALUE;
        for (int i = 0; i < 5; i++) {
            WellLendsDepth x = new WellLendsDepth();
            long before = bean.getThreadAllocatedBytes(id);
            oneRun(x);
            least = Math.min(least, bean.getThreadAllocatedBytes(id) - before);
        }
        due("calls make nothing: " + least + " bytes", least < 1000);
    }

    private static void oneRun(WellLendsDepth x) {
        String country = "dear 2 (b=1|k>2)&!l=0;cheap 1 d>5;mark 5;spring 2;fine 1";
        for (int i = 0; i < country.length(); i++) {
            x.feed(country.charAt(i));
        }
        x.country();
        for (int b = 0; b < 6; b++) {
            x.borrower(b + 1, b, 9 + b, 1);
            x.see(x.on(b, 0), b);
        }
        for (int i = 0; i < 20; i++) {
            x.image();
            x.undo();
            x.pass(1);
            x.act(5, 2, i);
            for (int what = 0; what < 4; what++) {
                x.best(what);
            }
            x.seldom(i % 6);
            x.more(12);
            x.wanted(i % 6, 0);
            x.can(i % 6, 1);
            x.odds(60, 0);
            x.mean(60, 1);
            x.tape(i % 6, i % 5, 60);
            x.judge(i % 6, 0);
            x.gone(0);
            x.first();
        }
    }

    public static void main(String[] args) throws IOException {
        String code = bare(Files.readString(Path.of("src/main/java/WellLendsDepth.java")));
        face();
        words(code);
        methodsAreShort(code);
        loopsHaveEnds(code);
        callsMakeNothing();
        System.out.println(wrong == 0 ? "the language is kept" : wrong + " rules are not kept");
        System.exit(wrong == 0 ? 0 : 1);
    }
}
