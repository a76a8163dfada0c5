import java.io.IOException;
import java.nio.file.Files;
import java.nio.file.Path;
import java.util.regex.Matcher;
import java.util.regex.Pattern;

/** What of LANGUAGE.md can be seen in the program's text and in what a run makes. */
public final class LanguageTest {
    public static void main(String[] args) throws IOException {
        String text = Files.readString(Path.of("src/main/java/FloatTowers.java"));
        String code = text.replaceAll("(?s)/\\*.*?\\*/", "").replaceAll("//[^\n]*", "");
        for (String word : new String[] {"throw", "throws", "try", "catch", "synchronized", "assert", "finally", "var",
            "protected", "Exception", "Object", "System\\.out", "hashCode", "toString", "float", "double", "Random"}) {
            Due.is("6: " + word, count(code, "\\b" + word + "\\b"), 0);
        }
        Due.is("2: ->", count(code, "->"), 0);
        Due.is("2: ::", count(code, "::"), 0);
        Due.is("4: Exact", count(code, "Exact\\b"), 0);
        Due.is("4: import", count(code, "\\bimport\\b"), count(code, "import java\\.util\\.Arrays;"));
        Due.is("10: texts", count(code, "\""), 0);
        Due.is("11: classes", count(code, "\\bclass\\b") <= 12 ? 1 : 0, 1);
        Due.is("1: classes inside are private and static",
            count(code, "\\bclass\\b"), 1 + count(code, "private static final class\\b"));
        Due.is("4: of the library", count(code, "\\b(Math|Integer|Arrays|System)\\."),
            count(code, "\\bMath\\.(abs|min|max|floorDiv|floorMod)\\(|\\bInteger\\.bitCount\\(|\\bArrays\\.fill\\("
                + "|\\bSystem\\.arraycopy\\("));
        parameters(code);
        room();
        Due.close("LanguageTest");
    }

    private static int count(String text, String pattern) {
        Matcher m = Pattern.compile(pattern).matcher(text);
        int n = 0;
        while (m.find()) {
            n++;
        }
        return n;
    }

    private static void parameters(String code) {
        Matcher m = Pattern.compile("(?m)^ +(?:[a-z]+ )+[\\w\\[\\]]+ \\w+\\(([^)]*)\\) \\{").matcher(code);
        while (m.find()) {
            Due.is("11: parameters of " + m.group(), m.group(1).split(",").length <= 7 ? 1 : 0, 1);
        }
    }

    /** 500 of the dearest calls make next to nothing: well under the room's 7.3 million fields and elements. */
    private static void room() {
        com.sun.management.ThreadMXBean bean =
            (com.sun.management.ThreadMXBean) java.lang.management.ManagementFactory.getThreadMXBean();
        FloatTowers x = new FloatTowers();
        x.car(4, 2, 10, 0);
        x.storey(0, 9, 4, 2);
        x.stand(0, 0, 0, 0);
        x.way(0, 400, 400, 410, 410, 0);
        x.digest();
        long before = bean.getCurrentThreadAllocatedBytes();
        for (int call = 0; call < 250; call++) {
            x.way(0, 400, 400, 410, 410, 0);
            x.digest();
        }
        long made = bean.getCurrentThreadAllocatedBytes() - before;
        Due.is("12: 500 calls make less than 100,000 bytes, not " + made, made < 100000 ? 1 : 0, 1);
        before = bean.getCurrentThreadAllocatedBytes();
        for (int call = 0; call < 500; call++) {
            new FloatTowers();
        }
        made = bean.getCurrentThreadAllocatedBytes() - before;
        Due.is("12: 500 objects have less than 7 million fields of 4 bytes and more, not " + made,
            made < 28_000_000 ? 1 : 0, 1);
    }
}
