/** Runs the tests of the document's boundary cases; the argument is where the document is. */
public final class EdgesTest {
    public static void main(String[] args) {
        Edges edges = new Edges();
        edges.look(args);
        MachineEdges.all(edges);
        InstructionEdges.all(edges);
        SpecialEdges.all(edges);
        ControlEdges.all(edges);
        RegionEdges.all(edges);
        ThreadEdges.all(edges);
        SystemCallEdges.all(edges);
        ThreadCallEdges.all(edges);
        DigestEdges.all(edges);
        PathEdges.all(edges);
        OutsideEdges.all(edges);
        PromiseEdges.all(edges);
        ViewEdges.all(edges);
        edges.end();
    }
}
