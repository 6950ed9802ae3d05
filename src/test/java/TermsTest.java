/** Each sentence of 'Terms' that names a boundary case, with tests of its own. */
public final class TermsTest {
    private TermsTest() {
    }

    public static void main(String[] args) {
        ShapeTerms.run();
        OrderTerms.run();
        TextTerms.run();
        StateTerms.run();
        Document.isTestedWhole("Terms");
        Check.end();
    }
}
