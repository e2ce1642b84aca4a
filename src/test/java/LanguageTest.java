import java.io.IOException;
import java.nio.file.Files;
import java.nio.file.Path;
import java.util.List;
import java.util.regex.Matcher;
import java.util.regex.Pattern;

/** Reads the class for what ../shared/LANGUAGE.md rules out, as far as its text shows that. */
public final class LanguageTest {
    private static final Checks CHECKS = new Checks();
    private static final List<String> FACE = List.of("edge", "point", "clear", "lay", "nodes", "node", "find",
        "pieces", "piece", "way", "wayNode");

    public static void main(String[] args) throws IOException {
        String text = Files.readString(Path.of("src/main/java/HotCells.java"));
        String code = text.replaceAll("(?s)/\\*.*?\\*/", "").replaceAll("//.*", "");
        for (String word : List.of("throw", "throws", "try", "catch", "synchronized", "assert", "package",
            "protected", "native", "volatile", "var", "float", "double", "Object", "System.out", "Thread")) {
            CHECKS.due("'" + word + "' stands", count("\\b" + Pattern.quote(word) + "\\b", code), 0);
        }
        CHECKS.due("lambdas with a block or method references", count("::|->\\s*\\{", code), 0);
        CHECKS.due("imports beside Arrays", count("(?m)^import (?!java\\.util\\.Arrays;)", code), 0);
        CHECKS.due("public members and the class", count("\\bpublic\\b", code), 2 + FACE.size());
        for (String name : FACE) {
            CHECKS.due("methods named " + name, count("(?m)^ +[\\w\\[\\] ]*\\w " + name + "\\([^;]*\\{$", code), 1);
        }
        CHECKS.due("static fields that may change", count("(?m)^ +(private )?static (?!final)[^(]*;", code), 0);
        shortMethods(code);
        CHECKS.end();
    }

    private static int count(String pattern, String code) {
        Matcher matcher = Pattern.compile(pattern).matcher(code);
        int found = 0;
        while (matcher.find()) {
            found++;
        }
        return found;
    }

    private static void shortMethods(String code) {
        int lines = 0;
        for (String line : code.split("\n")) {
            boolean isHead = line.matches(" +[\\w\\[\\] ]+\\(.*\\) \\{") && !line.matches(" +(if|for|while|switch) .*");
            lines = isHead ? 0 : lines + 1;
            CHECKS.holds("at most 60 lines up to: " + line, lines <= 60);
        }
    }
}
