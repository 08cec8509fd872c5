import java.io.IOException;
import java.nio.file.Files;
import java.nio.file.Path;
import java.util.List;
import java.util.regex.Matcher;
import java.util.regex.Pattern;

/** What of LANGUAGE.md can be seen in the words of SkipRows.java; run from the root of the project. */
public final class LanguageTest {
    private static final Path MAIN = Path.of("src/main/java/SkipRows.java");
    private static final List<String> BARRED = List.of("package ", "->", "::", "finally", "try (", "synchronized",
            "assert ", "native ", "volatile", "transient", "protected", "System.out", "System.nano", "System.current",
            "Double.", "Float.", "Random", "Thread", "Exact(", "static {", "hashCode", "\" +", "+ \"", "@");
    private static final List<String> THROWN = List.of("IllegalStateException", "IllegalArgumentException",
            "IndexOutOfBoundsException");
    private static final int LONGEST_METHOD = 60;
    private static final int MOST_CLASSES = 12;

    public static void main(String[] args) throws IOException {
        String text = withoutComments(Files.readString(MAIN));
        for (String word : BARRED) {
            Check.isTrue("the class holds «" + word + "»", !text.contains(word));
        }
        imports(text);
        thrown(text);
        classes(text);
        methods(text.split("\n"));
        signs(text);
        Check.end("LanguageTest");
    }

    private static String withoutComments(String text) {
        return text.replaceAll("(?s)/\\*.*?\\*/", "").replaceAll("//[^\n]*", "");
    }

    private static void imports(String text) {
        Matcher matcher = Pattern.compile("import ([^;]*);").matcher(text);
        while (matcher.find()) {
            Check.isTrue("import " + matcher.group(1), matcher.group(1).startsWith("java.util."));
        }
    }

    private static void thrown(String text) {
        Matcher matcher = Pattern.compile("throw ([^;]*);").matcher(text);
        while (matcher.find()) {
            String thrown = matcher.group(1);
            boolean fits = THROWN.stream().anyMatch(name -> thrown.matches("new " + name + "\\(\"[^\"]+\"\\)"));
            Check.isTrue("throw " + thrown, fits);
        }
    }

    private static void classes(String text) {
        Matcher matcher = Pattern.compile("\n *([a-z ]*)class ").matcher(text);
        int classes = 0;
        while (matcher.find()) {
            classes++;
            String modifiers = matcher.group(1);
            Check.isTrue("a class is «" + modifiers + "»",
                    modifiers.equals(classes == 1 ? "public final " : "private static final "));
        }
        Check.isTrue("there are " + classes + " classes", classes >= 1 && classes <= MOST_CLASSES);
    }

    /** Methods stand one or two classes deep; a method ends at the brace of its own indent. */
    private static void methods(String[] lines) {
        for (String indent : new String[] {"    ", "        "}) {
            int start = -1;
            for (int i = 0; i < lines.length; i++) {
                if (lines[i].matches(indent + "[A-Za-z].*[({].*") && !lines[i].contains("class ")) {
                    start = i;
                }
                if (lines[i].equals(indent + "}") && start >= 0) {
                    Check.isTrue("the method at «" + lines[start].trim() + "» is long", i - start < LONGEST_METHOD);
                    start = -1;
                }
            }
        }
    }

    private static void signs(String text) {
        Check.isTrue("signs are 1 to 126", text.chars().allMatch(sign -> sign >= 1 && sign <= 126));
    }
}
