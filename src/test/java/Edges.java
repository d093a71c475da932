/** What tests of the document's sentences have in common. */
abstract class Edges {
    static final int NONE = -1;
    static final int REFUSED = -2;
    static final int[] FAR = {Integer.MIN_VALUE, Integer.MIN_VALUE + 1, Integer.MAX_VALUE - 1, Integer.MAX_VALUE};

    private final Sentences sentences;

    Edges(Sentences sentences) {
        this.sentences = sentences;
    }

    abstract void test();

    final Sentences sentences() {
        return sentences;
    }

    final void sentence(String heading, String words) {
        sentences.sentence(heading, words);
    }

    final void due(String call, long got, long want) {
        sentences.due(call, got, want);
    }

    final void due(String call, boolean got, boolean want) {
        sentences.due(call, got, want);
    }

    final void same(String claim, Object got, Object want) {
        sentences.holds(claim + " (" + got + ", due is " + want + ")", got.equals(want));
    }

    /** A new object with a HILL and PLANS, all of which must be taken. */
    final PondStair with(String hill, String... plans) {
        PondStair x = new PondStair();
        due("taking <" + hill + ">", Tape.hill(x, hill), 0);
        for (int k = 0; k < plans.length; k++) {
            due("taking <" + plans[k] + ">", Tape.plan(x, plans[k]), k);
        }
        return x;
    }

    /** A text that is taken, as a HILL (0) or a PLAN (1). */
    final PondStair taken(int sort, String text) {
        PondStair x = new PondStair();
        Tape.put(x, text);
        due("text of <" + text + ">", x.text(sort, NONE), 0);
        due("FAULT of <" + text + ">", x.fault(0), 0);
        due("place in <" + text + ">", x.fault(1), NONE);
        due("how many after <" + text + ">", x.count(sort), 1);
        return x;
    }

    /** A text with a FAULT: nothing of it is taken. */
    final void fails(int sort, String text, int fault, int place) {
        PondStair x = new PondStair();
        Tape.put(x, text);
        due("text of <" + text + ">", x.text(sort, NONE), NONE);
        due("FAULT of <" + text + ">", x.fault(0), fault);
        due("place in <" + text + ">", x.fault(1), place);
        due("how many after <" + text + ">", x.count(sort), 0);
    }
}
