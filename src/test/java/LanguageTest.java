import java.io.IOException;
import java.lang.reflect.Field;
import java.lang.reflect.Method;
import java.lang.reflect.Modifier;
import java.nio.file.Files;
import java.nio.file.Path;
import java.util.ArrayList;
import java.util.List;
import java.util.TreeSet;
import java.util.regex.Matcher;
import java.util.regex.Pattern;

/** What of LANGUAGE.md can be seen in the program's text and in what a run makes. */
public final class LanguageTest {
    public static void main(String[] args) throws IOException {
        String text = Files.readString(Path.of("src/main/java/FloatTowers.java"));
        String code = text.replaceAll("(?s)/\\*.*?\\*/", "").replaceAll("//[^\n]*", "");
        for (String word : new String[] {"throw", "throws", "try", "catch", "synchronized", "assert", "finally", "var",
            "protected", "Exception", "Object", "System\\.out", "hashCode", "toString", "float", "double", "Random"}) {
            Due.is("6: " + word, count(code, "\\b" + word + "\\b"), 0);
        }
        Due.is("2: ->", count(code, "->"), 0);
        Due.is("2: ::", count(code, "::"), 0);
        Due.is("4: Exact", count(code, "Exact\\b"), 0);
        Due.is("4: import", count(code, "\\bimport\\b"), count(code, "import java\\.util\\.Arrays;"));
        Due.is("10: texts", count(code, "\""), 0);
        Due.is("11: classes", count(code, "\\bclass\\b") <= 12 ? 1 : 0, 1);
        Due.is("1: classes inside are private and static",
            count(code, "\\bclass\\b"), 1 + count(code, "private static final class\\b"));
        Due.is("4: of the library", count(code, "\\b(Math|Integer|Arrays|System)\\."),
            count(code, "\\bMath\\.(abs|min|max|floorDiv|floorMod)\\(|\\bInteger\\.bitCount\\(|\\bArrays\\.fill\\("
                + "|\\bSystem\\.arraycopy\\("));
        parameters(code);
        lengths(code);
        classes();
        room();
        Due.close("LanguageTest");
    }

    private static int count(String text, String pattern) {
        Matcher m = Pattern.compile(pattern).matcher(text);
        int n = 0;
        while (m.find()) {
            n++;
        }
        return n;
    }

    private static void parameters(String code) {
        Matcher m = Pattern.compile("(?m)^ +(?:[a-z]+ )+[\\w\\[\\]]+ \\w+\\(([^)]*)\\) \\{").matcher(code);
        while (m.find()) {
            Due.is("11: parameters of " + m.group(), m.group(1).split(",").length <= 7 ? 1 : 0, 1);
        }
    }

    /** From a line that opens a method to the brace that stands as far in. */
    private static void lengths(String code) {
        Matcher m = Pattern.compile("(?ms)^( {4}| {8})(?! )[^\\n;=]*\\([^;{]*\\) \\{$.*?^\\1\\}$").matcher(code);
        int methods = 0;
        while (m.find()) {
            methods++;
            String first = m.group().lines().findFirst().orElse("");
            Due.is("11: lines of " + first, m.group().lines().count() <= 60 ? 1 : 0, 1);
        }
        Due.is("11: the methods are seen", methods > 150 ? 1 : 0, 1);
    }

    private static void classes() {
        TreeSet<String> face = new TreeSet<>();
        for (Method m : FloatTowers.class.getDeclaredMethods()) {
            if (Modifier.isPublic(m.getModifiers())) {
                face.add(m.getName());
            }
        }
        List<Class<?>> all = new ArrayList<>(List.of(FloatTowers.class.getDeclaredClasses()));
        for (Class<?> inside : all) {
            Due.is("2: static: " + inside, Modifier.isStatic(inside.getModifiers()) ? 1 : 0, 1);
            for (Method m : inside.getDeclaredMethods()) {
                Due.is("1: no name of the face: " + m, face.contains(m.getName()) ? 1 : 0, 0);
            }
        }
        all.add(FloatTowers.class);
        for (Class<?> each : all) {
            int fields = 0;
            for (Field f : each.getDeclaredFields()) {
                if (Modifier.isStatic(f.getModifiers())) {
                    Due.is("5: final: " + f, Modifier.isFinal(f.getModifiers()) ? 1 : 0, 1);
                } else {
                    fields++;
                }
            }
            Due.is("11: fields of " + each, fields <= 20 ? 1 : 0, 1);
        }
    }

    /** 500 of the dearest calls make next to nothing: well under the room's 7.3 million fields and elements. */
    private static void room() {
        com.sun.management.ThreadMXBean bean =
            (com.sun.management.ThreadMXBean) java.lang.management.ManagementFactory.getThreadMXBean();
        FloatTowers x = new FloatTowers();
        x.car(4, 2, 10, 0);
        x.storey(0, 9, 4, 2);
        x.stand(0, 0, 0, 0);
        x.way(0, 400, 400, 410, 410, 0);
        x.digest();
        long before = bean.getCurrentThreadAllocatedBytes();
        for (int call = 0; call < 250; call++) {
            x.way(0, 400, 400, 410, 410, 0);
            x.digest();
        }
        long made = bean.getCurrentThreadAllocatedBytes() - before;
        Due.is("12: 500 calls make less than 100,000 bytes, not " + made, made < 100000 ? 1 : 0, 1);
        before = bean.getCurrentThreadAllocatedBytes();
        for (int call = 0; call < 500; call++) {
            new FloatTowers();
        }
        made = bean.getCurrentThreadAllocatedBytes() - before;
        Due.is("12: 500 objects have less than 7 million fields of 4 bytes and more, not " + made,
            made < 28_000_000 ? 1 : 0, 1);
    }
}
