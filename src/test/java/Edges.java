import java.util.function.Supplier;

/** The tests of the document's boundary cases; no sentence of the Terms or the promises is without one. */
final class Edges extends Check {
    Edges() {
        super("EdgesTest");
    }

    /** A CALL of the system that is refused so, and leaves all as it is with a twin that did not make it. */
    void refused(String what, Supplier<Bench> made, int due, int f, int... given) {
        Bench bench = made.get();
        is(what, due, bench.call(f, given));
        is(what + ": nothing is changed", Views.all(made.get().house), Views.all(bench.house));
    }

    @Override
    void end() {
        if (doc() != null) {
            for (String sentence : doc().unquoted()) {
                fail("no test is made from '" + sentence + "'");
            }
        }
        super.end();
    }
}
