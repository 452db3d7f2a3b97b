/** Boundary cases of every promise: one test for each sentence that names one, in the EdgesOf.. classes. */
public final class EdgesTest {
    private static final Class<?>[] TESTS = {EdgesOfSections.class, EdgesOfFaults.class, EdgesOfMoments.class,
        EdgesOfProof.class, EdgesOfLots.class, EdgesOfTexts.class, EdgesOfHost.class,
        EdgesOfAsking.class};

    public static void main(String[] args) throws ReflectiveOperationException {
        Check check = new Check();
        Edges edges = new Edges(check);
        for (Class<?> tests : TESTS) {
            edges.runAll(tests);
        }
        for (int promise = 1; promise <= 38; promise++) {
            check.holds("promise " + promise + " has a test", edges.promises().contains(promise));
        }
        check.end("EdgesTest");
    }
}
