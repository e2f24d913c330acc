import java.io.IOException;
import java.lang.reflect.Method;
import java.nio.file.Files;
import java.nio.file.Path;
import java.util.List;

/**
 * Each sentence of the document that names a boundary case, by a test of its own. The tests stand in the classes named
 * here; each says by its remark (Edge) of which promise and sentence it is. That these sentences do stand in the
 * document, and that none of its words is left without a test, is looked at too.
 */
public final class EdgesTest {
    private static final List<Class<? extends EdgeCases>> CASES = List.of(TextEdges.class, TermEdges.class,
        BestEdges.class, ChangeEdges.class, TradeEdges.class, ToldEdges.class, LookEdges.class, AllEdges.class,
        RefusalEdges.class);

    public static void main(String[] args) throws IOException, IllegalAccessException {
        int tests = 0;
        for (Class<? extends EdgeCases> cases : CASES) {
            for (Method test : EdgeCases.in(cases)) {
                EdgeCases.run(test);
                tests++;
            }
        }
        System.out.println(tests + " tests of sentences");
        Path file = Path.of(System.getProperty("doc", "../shared/DOC.md"));
        if (Files.isRegularFile(file)) {
            compareWith(new Doc(file));
        } else {
            System.out.println("the sentences are not compared with the document: no " + file);
        }
        EdgeCases.CHECK.finish();
    }

    private static void compareWith(Doc doc) {
        for (Class<? extends EdgeCases> cases : CASES) {
            for (Method test : EdgeCases.in(cases)) {
                Edge edge = test.getAnnotation(Edge.class);
                boolean stands = edge != null && doc.name(edge.of(), edge.words());
                EdgeCases.CHECK.due("the sentence of " + test.getName() + " stands in the document", stands);
            }
        }
        for (String part : doc.promising()) {
            String rest = doc.unnamed(part);
            EdgeCases.CHECK.due(part + ": no test is of '" + rest + "'", rest.isEmpty());
        }
    }
}
