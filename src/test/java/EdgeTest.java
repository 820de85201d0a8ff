import java.nio.file.Path;

/** Runs the tests under src/test/edges: at least one for each sentence of the document. */
public class EdgeTest {
    public static void main(String[] args) throws Exception {
        Path main = Path.of(args.length > 0 ? args[0] : "src/main/java/OverlapMill.java");
        Edge.read(main.toAbsolutePath().resolve("../../../../../shared/DOC.md").normalize());
        TellEdges.go();
        PlanEdges.go();
        RunEdges.go();
        BoundEdges.go();
        ThrowEdges.go();
        Edge.uncovered();
        System.out.println(Edge.tests + " sentences, " + Edge.checks + " checks, " + Edge.wrong + " wrong");
        System.exit(Edge.wrong == 0 ? 0 : 1);
    }
}
