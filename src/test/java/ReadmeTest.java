import java.io.IOException;
import java.nio.file.Files;
import java.nio.file.Path;
import java.util.ArrayList;
import java.util.List;
import java.util.Set;
import java.util.TreeSet;
import java.util.regex.Matcher;
import java.util.regex.Pattern;

/** README.md: the calls of its example answer as it says, it names each call of the face, and each test of the project. */
public final class ReadmeTest {
    private static final Path README = Path.of("README.md");
    private static final Path TESTS = Path.of("src/test/java");
    private static final Pattern CALL = Pattern.compile("\\s*tower\\.(\\w+\\([^)]*\\));\\s*// (-?\\w+).*");
    private static final Pattern TEXT = Pattern.compile("for \\(char sign : \"([^\"]*)\"\\.toCharArray\\(\\)\\) \\{");

    private ReadmeTest() {
    }

    public static void main(String[] args) throws IOException {
        String readme = Files.readString(README);
        example(readme);
        calls(readme);
        tests(readme);
        Notation.end("ReadmeTest");
    }

    private static void example(String readme) {
        int start = readme.indexOf("```java");
        String example = readme.substring(start, readme.indexOf("```", start + 3));
        List<String> calls = new ArrayList<>();
        for (String line : example.split("\n")) {
            Matcher call = CALL.matcher(line);
            Matcher text = TEXT.matcher(line);
            if (call.matches()) {
                calls.add(call.group(1) + " -> " + call.group(2));
            } else if (text.matches()) {
                calls.add("type \"" + text.group(1) + "\" -> " + text.group(1).length());
            }
        }
        Notation.due("the example has calls", calls.size() > 9 ? 1 : 0, 1);
        Notation.run("README", calls.toArray(new String[0]));
    }

    private static void calls(String readme) {
        Set<String> missing = new TreeSet<>();
        for (var method : BambooTower.class.getDeclaredMethods()) {
            boolean isNamed = readme.contains("`" + method.getName() + "(");
            if (java.lang.reflect.Modifier.isPublic(method.getModifiers()) && !isNamed) {
                missing.add(method.getName());
            }
        }
        Notation.due("calls that README does not name", missing.toString(), "[]");
    }

    private static void tests(String readme) throws IOException {
        Set<String> missing = new TreeSet<>();
        try (var files = Files.newDirectoryStream(TESTS, "*.java")) {
            for (Path file : files) {
                String name = file.getFileName().toString().replace(".java", "");
                if (!readme.contains("`" + name + "`") && !readme.contains("`" + name + ".java`")) {
                    missing.add(name);
                }
            }
        }
        Notation.due("tests that README does not name", missing.toString(), "[]");
    }
}
