import java.io.IOException;
import java.nio.file.Files;
import java.nio.file.Path;
import java.util.ArrayDeque;
import java.util.Deque;
import java.util.regex.Matcher;
import java.util.regex.Pattern;

/** Rules of LANGUAGE.md that can be seen in the text of the program; it runs where the project's root is. */
public final class LanguageTest {
    private static final String[] FORBIDDEN = {
        "throw", "throws", "try", "catch", "finally", "synchronized", "assert", "import", "package", "instanceof Object",
        "System", "Thread", "Random", "Object", "equals", "hashCode", "toString", "protected", "volatile", "transient",
        "native", "var", "yield"
    };

    public static void main(String[] args) throws IOException {
        String source = withoutComments(Files.readString(Path.of("src/main/java/TapeVault.java")));
        words(source);
        signs(source);
        lengths(source);
        Check.end();
    }

    private static String withoutComments(String source) {
        return source.replaceAll("(?s)/\\*.*?\\*/", "").replaceAll("//[^\n]*", "");
    }

    private static void words(String source) {
        Check.part("rules 4, 6, 13");
        for (String word : FORBIDDEN) {
            Check.that("no " + word, !Pattern.compile("\\b" + word + "\\b").matcher(source).find());
        }
    }

    private static void signs(String source) {
        Check.part("rules 2, 3");
        Check.that("no lambda", !source.contains("->"));
        Check.that("no method reference", !source.contains("::"));
        Check.that("no annotation", !source.contains("@"));
        Check.that("no text", !source.contains("\""));
        Check.that("plain signs", source.chars().allMatch(sign -> sign == '\n' || sign >= ' ' && sign <= '~'));
    }

    /** Some sixty lines a method and seven parameters at most. */
    private static void lengths(String source) {
        Check.part("rule 11");
        Matcher heads = Pattern.compile("(?m)^ +[\\w\\[\\] ]*\\b(\\w+)\\(([^()]*)\\) \\{$").matcher(source);
        int methods = 0;
        while (heads.find()) {
            if (heads.group(1).matches("if|for|while|switch")) {
                continue;
            }
            methods++;
            Check.that(heads.group(1) + " takes at most seven", heads.group(2).split(",").length <= 7);
            Check.that(heads.group(1) + " is short", linesOfBody(source, heads.end() - 2) <= 60);
        }
        Check.that("methods were found", methods > 40);
    }

    private static int linesOfBody(String source, int brace) {
        Deque<Integer> open = new ArrayDeque<>();
        int lines = 0;
        for (int at = brace; at < source.length(); at++) {
            char sign = source.charAt(at);
            if (sign == '{') {
                open.push(at);
            } else if (sign == '}') {
                open.pop();
                if (open.isEmpty()) {
                    return lines;
                }
            } else if (sign == '\n') {
                lines++;
            }
        }
        return lines;
    }
}
