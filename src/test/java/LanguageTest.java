import java.io.IOException;
import java.nio.file.Files;
import java.nio.file.Path;
import java.util.ArrayList;
import java.util.HashSet;
import java.util.List;
import java.util.Set;
import java.util.regex.Matcher;
import java.util.regex.Pattern;

/** Those rules of LANGUAGE.md that the text of the class shows by itself. */
public final class LanguageTest {
    private static final Checks CHECKS = new Checks("LanguageTest");
    private static final Path SOURCE = Path.of("src/main/java/HeelHounds.java");
    private static final Pattern METHOD = Pattern.compile(
        "^ {4,8}(public|private)( static)? (\\w+(?:\\[\\])?) (\\w+)\\(([^)]*)\\) \\{$");

    public static void main(String[] args) throws IOException {
        String text = Files.readString(SOURCE);
        forbidden(text);
        methods(text.split("\n"));
        classes(text.split("\n"));
        CHECKS.end();
    }

    private static void forbidden(String text) {
        CHECKS.due("signs beyond 127", text.chars().filter(sign -> sign > 126 || sign < 10).count(), 0);
        String code = text.replaceAll("(?s)/\\*.*?\\*/", "").replaceAll("//[^\n]*", "");
        String[] words = {"throw", "try", "catch", "synchronized", "assert", "package", "protected", "var", "Object",
            "hashCode", "toString", "System.out", "Exception", "native", "volatile", "goto", "long"};
        for (String word : words) {
            boolean isThere = Pattern.compile("\\b" + Pattern.quote(word) + "\\b").matcher(code).find();
            CHECKS.due("the word " + word, isThere, false);
        }
        CHECKS.due("lambdas", code.contains("->"), false);
        CHECKS.due("method references", code.contains("::"), false);
        CHECKS.due("imports", Pattern.compile("(?m)^import ").matcher(code).results().count(), 1);
        CHECKS.due("import of Arrays", code.contains("import java.util.Arrays;"), true);
        Pattern loose = Pattern.compile("static (?!final)\\w+(\\[\\])? \\w+( =|;)");
        CHECKS.due("static fields that are not final", loose.matcher(code).find(), false);
        Set<String> library = new HashSet<>();
        Matcher calls = Pattern.compile("\\b(Math|Arrays|System|Integer|Long)\\.(\\w+)").matcher(code);
        while (calls.find()) {
            library.add(calls.group(1) + "." + calls.group(2));
        }
        library.removeAll(Set.of("Math.min", "Math.max", "Math.abs", "Integer.bitCount"));
        library.removeAll(Set.of("Arrays.fill", "System.arraycopy"));
        CHECKS.due("other parts of the library " + library, library.size(), 0);
    }

    private static void methods(String[] lines) {
        Set<String> open = new HashSet<>();
        List<String> hidden = new ArrayList<>();
        for (int i = 0; i < lines.length; i++) {
            Matcher head = METHOD.matcher(lines[i]);
            if (!head.matches()) {
                continue;
            }
            (head.group(1).equals("public") ? open : hidden).add(head.group(4));
            String end = lines[i].replaceAll("\\S.*", "") + "}";
            int length = 1;
            while (!lines[i + length - 1].equals(end)) {
                length++;
            }
            CHECKS.due(head.group(4) + " is short (" + length + " lines)", length <= 60, true);
            CHECKS.due(head.group(4) + " takes few parameters", head.group(5).split(",").length <= 7, true);
        }
        CHECKS.due("public methods", open.size(), 31);
        hidden.retainAll(open);
        CHECKS.due("private methods with the name of a public one " + hidden, hidden.size(), 0);
    }

    private static void classes(String[] lines) {
        int classes = 0;
        int fields = 0;
        for (String line : lines) {
            if (line.matches(" *(public|private static) final class .*")) {
                classes++;
                fields = 0;
            }
            if (line.matches(" +private (final )?\\w+(\\[\\])? \\w+( = .*)?;")) {
                fields++;
                CHECKS.due("fields of a class", fields <= 20, true);
            }
        }
        CHECKS.due("classes", classes <= 12 && classes > 1, true);
    }
}
