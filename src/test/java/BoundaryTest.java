import java.io.IOException;
import java.lang.reflect.InvocationTargetException;
import java.lang.reflect.Method;
import java.nio.file.Files;
import java.nio.file.Path;
import java.util.Arrays;
import java.util.Comparator;
import java.util.TreeSet;
import java.util.function.Supplier;

/**
 * Every sentence of the document that names an edge, each with a test of its own in
 * src/test/help; a test says its promise, its sentence and its edge.
 */
public final class BoundaryTest {
    private static final Path DOCUMENT = Path.of("../shared/DOC.md");
    private static final int PROMISES = 36;
    private static final TreeSet<Integer> promises = new TreeSet<>();
    private static String document = null;
    private static int tests = 0;
    private static int wrong = 0;

    public static void main(String[] args) throws IOException, IllegalAccessException {
        if (Files.exists(DOCUMENT)) {
            document = oneLine(Files.readString(DOCUMENT));
        } else {
            System.out.println("no document at " + DOCUMENT + ": quotes are not looked up");
        }
        run(PeopleEdges::new);
        run(SeatEdges::new);
        run(ChanceEdges::new);
        run(SheetEdges::new);
        for (int promise = 1; promise <= PROMISES; promise++) {
            if (!promises.contains(promise)) {
                tell("promise " + promise + " has no test");
            }
        }
        System.out.println(tests + " tests of edges, " + wrong + " things not as due");
        if (wrong != 0) {
            System.exit(1);
        }
    }

    private static String oneLine(String text) {
        return text.replaceAll("\\s+", " ");
    }

    private static void tell(String what) {
        wrong++;
        System.out.println(what);
    }

    /** Each test has an object of its own, so that none leans on another. */
    private static void run(Supplier<Edges> edges) throws IllegalAccessException {
        Method[] methods = edges.get().getClass().getDeclaredMethods();
        Arrays.sort(methods, Comparator.comparing(Method::getName));
        for (Method method : methods) {
            Sentence sentence = method.getAnnotation(Sentence.class);
            if (sentence != null) {
                tests++;
                promises.add(sentence.promise());
                runOne(edges.get(), method, sentence);
            }
        }
    }

    private static void runOne(Edges edges, Method method, Sentence sentence)
            throws IllegalAccessException {
        String name = "promise " + sentence.promise() + ", \"" + sentence.says() + "\", "
            + sentence.edge() + " (" + method.getName() + "): ";
        if (document != null && !document.contains(oneLine(sentence.says()))) {
            tell(name + "the document has no such words");
        }
        try {
            method.invoke(edges);
        } catch (InvocationTargetException e) {
            tell(name + "threw " + e.getCause());
        }
        if (edges.looks == 0) {
            tell(name + "looked at nothing");
        }
        for (String each : edges.wrong) {
            tell(name + each);
        }
    }
}
