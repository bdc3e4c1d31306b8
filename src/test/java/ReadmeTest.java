import java.io.ByteArrayOutputStream;
import java.io.File;
import java.io.IOException;
import java.io.PrintStream;
import java.lang.reflect.Method;
import java.lang.reflect.Modifier;
import java.nio.charset.StandardCharsets;
import java.nio.file.Files;
import java.nio.file.Path;
import java.util.ArrayList;
import java.util.Collections;
import java.util.List;
import java.util.regex.Matcher;
import java.util.regex.Pattern;

/** README.md tells the calls of the class, an example as it is and as it prints, and the tests that there are. */
public class ReadmeTest {
    private static final Path README = Path.of("README.md");
    private static final Path TESTS = Path.of("src", "test", "java");

    public static void main(String[] arguments) throws IOException {
        Check check = new Check("ReadmeTest");
        String readme = Files.readString(README, StandardCharsets.UTF_8);
        check.equal("the calls", String.join("\n", callsOf(LayeredChute.class)), String.join("\n", callsIn(readme)));
        check.equal("the constructor is told", true, readme.contains("`LayeredChute()`"));
        check.equal("NONE is told", true, readme.contains("`NONE` is " + LayeredChute.NONE + " "));

        String example = Files.readString(TESTS.resolve("Example.java"), StandardCharsets.UTF_8);
        check.equal("the example stands in it", true, readme.contains("```java\n" + example + "```\n"));
        check.equal("what the example prints", blockBehind("It prints:", readme), printedByExample());

        for (String name : namesOfTests()) {
            check.equal(name + " is told", true, readme.contains("`" + name + "`") || readme.contains("`@" + name + "`"));
        }
        check.end();
    }

    private static List<String> callsOf(Class<?> face) {
        List<String> calls = new ArrayList<>();
        for (Method method : face.getDeclaredMethods()) {
            if (Modifier.isPublic(method.getModifiers())) {
                calls.add(FaceTest.signature(method));
            }
        }
        Collections.sort(calls);
        return calls;
    }

    /** The rows of its tables that begin with a call, told as FaceTest tells a method. */
    private static List<String> callsIn(String readme) {
        Pattern row = Pattern.compile("\\| `(\\w+ \\w+)\\((.*?)\\)` \\|.*\\|([^|]*)\\|");
        List<String> calls = new ArrayList<>();
        for (String line : readme.split("\n")) {
            Matcher matcher = row.matcher(line);
            if (matcher.matches()) {
                String types = matcher.group(2).replaceAll("(\\w+) \\w+", "$1");
                calls.add(matcher.group(1) + "(" + types + ")" + exceptionsIn(matcher.group(3)));
            }
        }
        Collections.sort(calls);
        return calls;
    }

    private static String exceptionsIn(String cell) {
        List<String> names = new ArrayList<>();
        Matcher matcher = Pattern.compile("`(\\w+Exception)`").matcher(cell);
        while (matcher.find()) {
            names.add(matcher.group(1));
        }
        return names.isEmpty() ? "" : " throws " + String.join(", ", names);
    }

    private static String blockBehind(String words, String readme) {
        int from = readme.indexOf("```text\n", Math.max(readme.indexOf(words), 0)) + "```text\n".length();
        return readme.substring(from, readme.indexOf("```", from));
    }

    private static String printedByExample() {
        PrintStream usual = System.out;
        ByteArrayOutputStream bytes = new ByteArrayOutputStream();
        try (PrintStream caught = new PrintStream(bytes, true, StandardCharsets.UTF_8)) {
            System.setOut(caught);
            Example.main(new String[0]);
        } finally {
            System.setOut(usual);
        }
        return bytes.toString(StandardCharsets.UTF_8).replace(System.lineSeparator(), "\n");
    }

    private static List<String> namesOfTests() {
        List<String> names = new ArrayList<>();
        File[] files = TESTS.toFile().listFiles();
        for (File file : files == null ? new File[0] : files) {
            names.add(file.getName().replace(".java", ""));
        }
        Collections.sort(names);
        return names;
    }
}
