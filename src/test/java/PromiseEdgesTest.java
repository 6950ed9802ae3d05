/** Each sentence of promises 1 to 24 that names a boundary case, with tests of its own. */
public final class PromiseEdgesTest {
    private PromiseEdgesTest() {
    }

    public static void main(String[] args) {
        ToldInEdges.run();
        ShapeEdges.run();
        OrderEdges.run();
        TextEdges.run();
        for (int n = 1; n <= 24; n++) {
            Document.isTestedWhole("Promise " + n);
        }
        Check.end();
    }
}
