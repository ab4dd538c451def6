import java.lang.reflect.Field;
import java.lang.reflect.Method;
import java.nio.file.Files;
import java.nio.file.Path;
import java.util.ArrayList;
import java.util.HashMap;
import java.util.List;
import java.util.Map;
import java.util.regex.Matcher;
import java.util.regex.Pattern;

/** Runs the examples of README.md line by line, and looks whether it names every call, constant and test. */
public final class ReadmeTest {
    private static final Pattern EXAMPLE = Pattern.compile("(?s)```java\n(.*?)```");
    private static final Pattern MADE = Pattern.compile("MarkRules x = new MarkRules\\(\\);");
    private static final Pattern CALL =
        Pattern.compile("(?:int (\\w+) = )?x\\.(\\w+)\\(([^()]*)\\); +// (-?\\d+|[A-Z]+)(?:: .*)?");

    private static final List<String> wrong = new ArrayList<>();

    public static void main(String[] args) throws Exception {
        String readme = Files.readString(Path.of("README.md"));
        int examples = 0;
        Matcher example = EXAMPLE.matcher(readme);
        while (example.find()) {
            runExample(example.group(1));
            examples++;
        }
        expect(examples > 0, "there is no example");
        namesTheFace(readme);
        namesTheTests(readme);
        wrong.forEach(System.out::println);
        if (!wrong.isEmpty()) {
            System.exit(1);
        }
    }

    private static void expect(boolean holds, String otherwise) {
        if (!holds) {
            wrong.add("ReadmeTest: " + otherwise);
        }
    }

    private static void runExample(String example) throws Exception {
        MarkRules x = null;
        Map<String, Integer> named = new HashMap<>();
        for (String line : example.split("\n")) {
            Matcher call = CALL.matcher(line);
            if (MADE.matcher(line).matches()) {
                x = new MarkRules();
            } else if (x != null && call.matches()) {
                int answer = answerOf(x, call.group(2), call.group(3), named);
                expect(answer == numberOf(call.group(4), named), line + " answered " + answer);
                if (call.group(1) != null) {
                    named.put(call.group(1), answer);
                }
            } else {
                expect(false, "no line of an example: " + line);
            }
        }
    }

    private static int answerOf(MarkRules x, String name, String listed, Map<String, Integer> named) throws Exception {
        String[] words = listed.isEmpty() ? new String[0] : listed.split(", ");
        for (Method method : MarkRules.class.getMethods()) {
            if (method.getDeclaringClass() == MarkRules.class && method.getName().equals(name)
                && method.getParameterCount() == words.length) {
                Object[] arguments = new Object[words.length];
                for (int k = 0; k < words.length; k++) {
                    boolean isFlag = method.getParameterTypes()[k] == boolean.class;
                    arguments[k] = isFlag ? (Object) Boolean.valueOf(words[k]) : (Object) numberOf(words[k], named);
                }
                return (int) method.invoke(x, arguments);
            }
        }
        throw new IllegalArgumentException("README.md calls " + name + "(" + listed + ")");
    }

    private static int numberOf(String word, Map<String, Integer> named) throws Exception {
        if (named.containsKey(word)) {
            return named.get(word);
        }
        if (word.matches("-?\\d+")) {
            return Integer.parseInt(word);
        }
        return MarkRules.class.getField(word.replace("MarkRules.", "")).getInt(null);
    }

    private static void namesTheFace(String readme) throws Exception {
        for (Method method : MarkRules.class.getMethods()) {
            if (method.getDeclaringClass() == MarkRules.class) {
                expect(readme.contains("`" + method.getName() + "`"), "README.md does not name " + method.getName());
            }
        }
        for (Field field : MarkRules.class.getFields()) {
            String row = "| `" + field.getName() + "` (" + field.getInt(null) + ") |";
            expect(readme.contains(row), "README.md has no row " + row);
        }
    }

    private static void namesTheTests(String readme) throws Exception {
        for (String file : Path.of("src/test/java").toFile().list()) {
            if (file.endsWith("Test.java")) {
                String row = "| " + file.replace(".java", "") + " |";
                expect(readme.contains(row), "README.md has no row " + row);
            }
        }
    }
}
