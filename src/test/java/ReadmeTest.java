import java.io.IOException;
import java.lang.reflect.Field;
import java.lang.reflect.Method;
import java.lang.reflect.Modifier;
import java.nio.file.DirectoryStream;
import java.nio.file.Files;
import java.nio.file.Path;
import java.util.Arrays;
import java.util.regex.Matcher;
import java.util.regex.Pattern;

/** What README.md shows is so: its examples' answers, the face, the tests. It runs where the project's root is. */
public final class ReadmeTest {
    private static final Pattern EXAMPLES = Pattern.compile("(?s)```java\n(.*?)```");
    private static final Pattern CALL = Pattern.compile("vault\\.(\\w+)\\(([-0-9, ]*)\\); *// .*: (-?\\d+|[A-Z_]+)");
    private static final String NEW_OBJECT = "TapeVault vault = new TapeVault();";

    private TapeVault vault;

    public static void main(String[] args) throws IOException, ReflectiveOperationException {
        String readme = Files.readString(Path.of("README.md"));
        new ReadmeTest().examples(readme);
        face(readme);
        tests(readme);
        Check.end();
    }

    private void examples(String readme) throws ReflectiveOperationException {
        Check.part("examples");
        int found = 0;
        Matcher example = EXAMPLES.matcher(readme);
        while (example.find()) {
            found++;
            for (String line : example.group(1).split("\n")) {
                example(line);
            }
        }
        Check.due("examples", found, 2);
    }

    private void example(String line) throws ReflectiveOperationException {
        if (line.equals(NEW_OBJECT)) {
            vault = new TapeVault();
            return;
        }
        Matcher call = CALL.matcher(line);
        boolean isCall = call.matches();
        Check.that("a call with its answer is: " + line, isCall);
        if (isCall) {
            Check.due(line, answer(call.group(1), call.group(2)), told(call.group(3)));
        }
    }

    private int answer(String name, String list) throws ReflectiveOperationException {
        String[] words = list.isBlank() ? new String[0] : list.split(", *");
        Class<?>[] types = new Class<?>[words.length];
        Arrays.fill(types, int.class);
        Object[] values = new Object[words.length];
        for (int k = 0; k < words.length; k++) {
            values[k] = Integer.valueOf(words[k]);
        }
        return (Integer) TapeVault.class.getMethod(name, types).invoke(vault, values);
    }

    private static int told(String word) throws ReflectiveOperationException {
        return word.matches("[A-Z_]+") ? TapeVault.class.getField(word).getInt(null) : Integer.parseInt(word);
    }

    private static void face(String readme) throws ReflectiveOperationException {
        Check.part("face");
        for (Method method : TapeVault.class.getDeclaredMethods()) {
            if (Modifier.isPublic(method.getModifiers())) {
                Pattern row = Pattern.compile("\\| `" + method.getName() + "\\(([^)]*)\\)` \\| \\w");
                Matcher rows = row.matcher(readme);
                boolean named = rows.find();
                Check.that("a row for " + method.getName(), named);
                Check.due("its parameters", named ? parameters(rows.group(1)) : -1, method.getParameterCount());
            }
        }
        for (Field field : TapeVault.class.getFields()) {
            String told = "`" + field.getName() + "`[ |]+" + field.getInt(null) + "\\b";
            Check.that(field.getName() + " and its number", Pattern.compile(told).matcher(readme).find());
        }
    }

    private static int parameters(String list) {
        return list.isEmpty() ? 0 : list.split(",").length;
    }

    private static void tests(String readme) throws IOException {
        Check.part("tests");
        Check.that("how all tests are run", readme.contains("```sh\n.ci/run\n```"));
        try (DirectoryStream<Path> files = Files.newDirectoryStream(Path.of("src/test/java"), "*Test.java")) {
            for (Path file : files) {
                String name = file.getFileName().toString().replace(".java", "");
                Check.that(name + " is named", readme.contains("- `" + name + "`: "));
            }
        }
    }
}
