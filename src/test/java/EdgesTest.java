import java.io.IOException;
import java.nio.file.Files;
import java.nio.file.Path;

/** Runs the tests of the document's boundary cases; the argument is where the document is. */
public final class EdgesTest {
    public static void main(String[] args) throws IOException {
        Path path = Path.of(args.length > 0 ? args[0] : "../shared/DOC.md");
        Edges edges = new Edges(Files.isReadable(path) ? new Doc(path) : null);
        MachineEdges.all(edges);
        InstructionEdges.all(edges);
        SpecialEdges.all(edges);
        ControlEdges.all(edges);
        RegionEdges.all(edges);
        ThreadEdges.all(edges);
        SystemCallEdges.all(edges);
        ThreadCallEdges.all(edges);
        DigestEdges.all(edges);
        PathEdges.all(edges);
        OutsideEdges.all(edges);
        PromiseEdges.all(edges);
        ViewEdges.all(edges);
        edges.end();
    }
}
