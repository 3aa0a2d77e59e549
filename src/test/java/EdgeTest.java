import java.io.IOException;
import java.lang.reflect.InvocationTargetException;
import java.lang.reflect.Method;
import java.util.Arrays;
import java.util.Comparator;
import java.util.List;
import java.util.Set;
import java.util.TreeSet;

/** Every sentence of the document that names a boundary case, each with a test of its own. */
public final class EdgeTest {
    private static final List<Class<?>> HOLDERS = List.of(EdgesOfText.class, EdgesOfTerms.class, EdgesOfCenturies.class,
            EdgesOfPromises.class, EdgesOfWeighing.class);

    private EdgeTest() {
    }

    private static void run(Method test, Document document, Set<String> seen) throws IllegalAccessException {
        Edge edge = test.getAnnotation(Edge.class);
        Edges.begin(edge.of(), edge.says());
        if (!document.says(edge.of(), edge.says())) {
            Edges.tell("the document does not say so there");
        }
        seen.add(edge.of());
        try {
            test.invoke(null);
        } catch (InvocationTargetException e) {
            Edges.tell(test.getName() + " ended by " + e.getCause());
        }
    }

    private static void tellMissing(Set<String> seen) {
        for (int term = 1; term <= 6; term++) {
            if (!seen.contains("==== " + term + ".")) {
                Edges.tell("no edge of ==== " + term + ". is tested");
            }
        }
        for (int promise = 1; promise <= 36; promise++) {
            if (!seen.contains("Promise " + promise)) {
                Edges.tell("no edge of promise " + promise + " is tested");
            }
        }
    }

    public static void main(String[] args) throws IOException, IllegalAccessException {
        Document document = new Document();
        Set<String> seen = new TreeSet<>();
        int sentences = 0;
        for (Class<?> holder : HOLDERS) {
            Method[] tests = holder.getDeclaredMethods();
            Arrays.sort(tests, Comparator.comparing(Method::getName));
            for (Method test : tests) {
                if (test.isAnnotationPresent(Edge.class)) {
                    run(test, document, seen);
                    sentences++;
                }
            }
        }
        Edges.begin("Stage 2", "the boundary cases");
        tellMissing(seen);
        int wrong = Edges.wrong();
        System.out.println(sentences + " sentences with an edge: " + (wrong == 0 ? "all hold" : wrong + " wrong"));
        if (wrong != 0) {
            System.exit(1);
        }
    }
}
