/** Every sentence of the document by its edges: the last input on this side, the first on the other one. */
public final class EdgeTest {
    private EdgeTest() {
    }

    public static void main(String[] args) throws Exception {
        Sentences sentences = new Sentences();
        new EdgesOfState(sentences).test();
        new EdgesOfTexts(sentences).test();
        new EdgesOfPlans(sentences).test();
        new EdgesOfStorms(sentences).test();
        new EdgesOfChoices(sentences).test();
        new EdgesOfArguments(sentences).test();
        sentences.close();
    }
}
