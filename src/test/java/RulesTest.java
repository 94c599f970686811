import java.io.IOException;
import java.lang.management.ManagementFactory;
import java.lang.reflect.Field;
import java.lang.reflect.Method;
import java.lang.reflect.Modifier;
import java.nio.file.Files;
import java.nio.file.Path;
import java.util.ArrayList;
import java.util.Arrays;
import java.util.List;
import java.util.TreeSet;
import java.util.regex.Matcher;
import java.util.regex.Pattern;

/** What ../shared/LANGUAGE.md asks and a program can look at: the face, words ruled out, sizes, what calls make. */
public final class RulesTest {
    private static final Path SOURCE = Path.of("src/main/java/VoteFiles.java");
    private static final String FACE = "type(1) clear(0) file(0) reads(1) writes(2) mends(1) votes(6) flips(1) moves(2)"
        + " undo(0) copy(2) group(2) asked(0) chance(3) least(1) best(3) sees(2) forget(0) unseen(1) keep(1) back(1)"
        + " count(1)";
    private static int wrong = 0;

    private static void due(String what, Object got, Object want) {
        if (!got.equals(want)) {
            wrong++;
            System.out.println("RulesTest: " + what + ": " + got + ", due is " + want);
        }
    }

    private static void face() {
        Class<?> face = VoteFiles.class;
        due("public and final", face.getModifiers(), Modifier.PUBLIC | Modifier.FINAL);
        due("constructors", face.getDeclaredConstructors().length, 1);
        due("the constructor", face.getDeclaredConstructors()[0].toString(), "public VoteFiles()");
        TreeSet<String> found = new TreeSet<>();
        for (Method method : face.getDeclaredMethods()) {
            if (Modifier.isPrivate(method.getModifiers())) continue;
            due(method + " is public alone", method.getModifiers(), Modifier.PUBLIC);
            due(method + " answers", method.getReturnType(), int.class);
            for (Class<?> type : method.getParameterTypes()) due(method + " takes", type, int.class);
            found.add(method.getName() + "(" + method.getParameterCount() + ")");
        }
        due("the methods", found, new TreeSet<>(Arrays.asList(FACE.split(" "))));
        TreeSet<String> constants = new TreeSet<>();
        for (Field field : face.getDeclaredFields()) {
            if (!Modifier.isPrivate(field.getModifiers())) constants.add(field.getName());
        }
        due("the constants", constants, new TreeSet<>(List.of("BAD", "STATE", "FULL", "FEW", "STALE", "NONE")));
    }

    private static void classesInside() {
        Class<?>[] inside = VoteFiles.class.getDeclaredClasses();
        due("twelve classes at most", inside.length + 1 <= 12, true);
        List<Class<?>> all = new ArrayList<>(List.of(inside));
        all.add(VoteFiles.class);
        for (Class<?> each : all) {
            boolean outer = each == VoteFiles.class;
            due(each + " is static and not public", outer || Modifier.isStatic(each.getModifiers())
                && !Modifier.isPublic(each.getModifiers()), true);
            due(each + " has no class inside", outer || each.getDeclaredClasses().length == 0, true);
            int fields = 0;
            for (Field field : each.getDeclaredFields()) {
                boolean fixed = Modifier.isStatic(field.getModifiers());
                if (!fixed) fields++;
                due(field + " is final", !fixed || Modifier.isFinal(field.getModifiers()), true);
            }
            due(each + " has twenty fields at most", fields <= 20, true);
            for (Method method : each.getDeclaredMethods()) {
                due(method + " takes seven at most", method.getParameterCount() <= 7, true);
                due(method + " bears a public name", !Modifier.isPublic(method.getModifiers())
                    && FACE.contains(" " + method.getName() + "("), false);
            }
        }
    }

    private static void words() throws IOException {
        String code = Files.readString(SOURCE).replaceAll("(?s)/\\*.*?\\*/", "").replaceAll("//[^\n]*", "");
        due("no package", code.contains("package "), false);
        String outside = "\\b(throw|throws|try|catch|finally|synchronized|assert|import|double|float|volatile|native"
            + "|transient|hashCode|toString|Exact|Object|yield|var)\\b|->|::|@|Exact\\(|\\.equals\\(";
        Matcher match = Pattern.compile(outside).matcher(code);
        while (match.find()) due("a word ruled out", match.group(), "");
        due("signs of the source", Files.readString(SOURCE).chars().allMatch(c -> c == '\n' || c >= 32 && c < 127), true);
        due("text joined by +", Pattern.compile("\"\\s*\\+|\\+\\s*\"").matcher(code).find(), false);
        int length = 0;
        for (String line : code.split("\n")) {
            length = line.matches(" {4}( {4})?\\S.*\\) \\{") ? 0 : length + 1;
            if (line.matches(" {4}( {4})?\\}")) due("sixty lines at most", length <= 60, true);
        }
    }

    private static void tellAll(VoteFiles files, String text) {
        for (int i = 0; i < text.length(); i++) files.type(text.charAt(i));
        files.file();
    }

    /** A run of all calls, that leaves nothing behind. */
    private static void callAll(VoteFiles files, String text) {
        files.clear();
        tellAll(files, "copy 1");
        files.clear();
        tellAll(files, text);
        for (int i = -1; i < 9; i++) {
            files.moves(i, i % 3);
            files.flips(i);
            files.flips(i);
            files.moves(i, 0);
            files.writes(0, i);
            files.reads(i);
            files.mends(i);
            files.votes(0, i, 1, 0, 4, 4);
            files.sees(i & 1, i >> 1 & 1);
            files.unseen(i);
            files.keep(i);
            files.back(i);
            files.undo();
            for (int j = -1; j < 11; j++) {
                files.copy(i, j);
                files.group(i, j);
                files.chance(j, i, 0);
                files.best(j, i, 0);
            }
            files.least(i);
            files.count(i);
        }
        files.asked();
        files.forget();
    }

    private static void room() {
        if (!(ManagementFactory.getThreadMXBean() instanceof com.sun.management.ThreadMXBean bean)) {
            System.out.println("RulesTest: this machine does not count what is made");
            return;
        }
        String text = "copy 1;copy 1;copy 1;witness 1;copy 1;copy 1;read 4;write 4;";
        VoteFiles files = new VoteFiles();
        long thread = Thread.currentThread().getId();
        // The machine itself makes something now and then, so the least of several tries is what the calls make.
        long least = Long.MAX_VALUE;
        long leastNew = Long.MAX_VALUE;
        for (int i = 0; i < 10; i++) {
            long before = bean.getThreadAllocatedBytes(thread);
            callAll(files, text);
            long between = bean.getThreadAllocatedBytes(thread);
            files = new VoteFiles();
            leastNew = Math.min(leastNew, bean.getThreadAllocatedBytes(thread) - between);
            least = Math.min(least, between - before);
        }
        due("bytes that calls make", least, 0L);
        due("a new object takes less than 2,000 ints: " + leastNew, leastNew < 8000, true);
    }

    /** Any numbers at all, in many states: nothing may be thrown, which would end this test. */
    private static void anyNumbers() {
        int[] odd = {Integer.MIN_VALUE, -1000, -9, -1, 0, 1, 2, 3, 5, 6, 7, 8, 30, 31, 255, 256, 999, 1000, Integer.MAX_VALUE};
        String[] texts = {"", "copy 1;read 1;write 1;", "copy 5;witness 5;copy 5;copy 5;witness 5;copy 5;read 30;write 30;"};
        for (String text : texts) {
            VoteFiles files = new VoteFiles();
            tellAll(files, text);
            for (int a : odd) {
                for (int b : odd) {
                    for (int c : odd) {
                        files.chance(a, b, c);
                        if (c < 3) files.best(a, b, c);
                        files.votes(a, b, c, 0, 30, 30);
                        files.votes(0, 0, a, b, c, 30);
                        files.votes(0, 0, 0, a, b, c);
                    }
                    files.writes(a, b);
                    files.moves(a, b);
                    files.copy(a, b);
                    files.group(a, b);
                    files.sees(a, b);
                }
                files.type(a);
                files.reads(a);
                files.mends(a);
                files.flips(a);
                files.least(a);
                files.unseen(a);
                files.keep(a);
                files.back(a);
                files.count(a);
                files.undo();
                files.file();
            }
        }
    }

    public static void main(String[] args) throws IOException {
        face();
        classesInside();
        words();
        room();
        anyNumbers();
        System.out.println("RulesTest: " + wrong + " wrong");
        if (wrong != 0) System.exit(1);
    }
}
