/** Each sentence of the document that names a boundary case has a test of its own, which names it. */
public final class BoundariesTest {
    public static void main(String[] args) {
        TextBoundaries.all();
        RuleBoundaries.all();
        PromiseBoundaries.all();
        AnswerBoundaries.all();
        Doc.end();
        Check.end("BoundariesTest");
    }
}
