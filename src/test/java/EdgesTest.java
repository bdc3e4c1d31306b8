import java.io.IOException;
import java.lang.reflect.InvocationTargetException;
import java.lang.reflect.Method;
import java.nio.charset.StandardCharsets;
import java.nio.file.Files;
import java.nio.file.Path;
import java.util.ArrayList;
import java.util.Comparator;
import java.util.HashSet;
import java.util.List;
import java.util.Set;

/**
 * Runs the tests of the edges: a test for each sentence of the document that names an edge. A test is a method of
 * one of the Edge classes, named by its promise (p02.. for promise 2), with the sentence beside it.
 */
public class EdgesTest {
    private static final Object[] EDGES = {new EdgeTexts(), new EdgeSetups(), new EdgeScripts(), new EdgeState(),
        new EdgeReasons(), new EdgeSecond(), new EdgeForetell(), new EdgeActs(), new EdgeKeep()};
    private static final Path DOCUMENT = Path.of("..", "shared", "DOC.md");
    private static final int PROMISES = 44;

    private final Check check = new Check("EdgesTest");
    private final Set<String> told = new HashSet<>();
    private final String document = document();

    public static void main(String[] arguments) {
        EdgesTest test = new EdgesTest();
        for (Object edges : EDGES) {
            for (Method method : testsOf(edges)) {
                test.run(edges, method);
            }
        }
        test.everyPromiseIsTold();
        test.check.end();
    }

    private static List<Method> testsOf(Object edges) {
        List<Method> tests = new ArrayList<>();
        for (Method method : edges.getClass().getDeclaredMethods()) {
            if (method.isAnnotationPresent(Sentence.class)) {
                tests.add(method);
            }
        }
        tests.sort(Comparator.comparing(Method::getName));
        return tests;
    }

    private void run(Object edges, Method method) {
        String name = method.getName();
        Check own = new Check(edges.getClass().getSimpleName() + "." + name);
        String sentence = method.getAnnotation(Sentence.class).value();
        try {
            method.invoke(edges, own);
        } catch (InvocationTargetException e) {
            own.equal("it ends", "", String.valueOf(e.getCause()));
        } catch (IllegalAccessException e) {
            throw new AssertionError(e);
        }
        check.equal(edges.getClass().getSimpleName() + "." + name + ": " + sentence, true, own.hasPassed());
        check.equal(name + " is named by its promise", true, name.matches("p[0-9]{2}[A-Z0-9].*"));
        int promise = Integer.parseInt(name.substring(1, 3));
        told.add(promise + " " + sentence);
        if (!document.isEmpty()) {
            check.equal("the document says for promise " + promise + ": " + sentence, true,
                    terms().contains(sentence) || section(promise).contains(sentence));
        }
    }

    /** Each promise has tests of its edges, and each exception that the document tells has one. */
    private void everyPromiseIsTold() {
        for (int promise = 1; promise <= PROMISES; promise++) {
            String start = promise + " ";
            check.equal("promise " + promise + " has a test", true, told.stream().anyMatch(t -> t.startsWith(start)));
            for (String line : section(promise).split("\n")) {
                if (line.startsWith("Throws ")) {
                    check.equal("promise " + promise + " has a test of: " + line, true, told.contains(start + line));
                }
            }
        }
    }

    private String terms() {
        return document.substring(0, document.indexOf("\n## Promise 1:"));
    }

    private String section(int promise) {
        if (document.isEmpty()) {
            return "";
        }
        int from = document.indexOf("\n## Promise " + promise + ":");
        int to = document.indexOf("\n## ", from + 1);
        return document.substring(from, to);
    }

    private static String document() {
        try {
            return Files.readString(DOCUMENT, StandardCharsets.UTF_8);
        } catch (IOException e) {
            System.out.println("EdgesTest: there is no " + DOCUMENT + ", so no sentence is looked up there");
            return "";
        }
    }
}
