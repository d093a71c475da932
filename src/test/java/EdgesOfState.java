/** Promises 1, 42, 43, 44 and the constant: what a new object has, how many there are, images. */
final class EdgesOfState extends Edges {
    EdgesOfState(Sentences sentences) {
        super(sentences);
    }

    @Override
    void test() {
        constant();
        newObject();
        count();
        image();
        imageHasAll();
        refusedImage();
        again();
        refusedAgain();
    }

    private void constant() {
        sentence("Terms 4", "The constants: `NONE = -1`: There is none.");
        due("NONE", PondStair.NONE, -1);
    }

    private void newObject() {
        sentence("Promise 1", "No HILLS, PLANS; no images.");
        PondStair other = with("pond 1 1 1;", "out 0;");
        other.image(0);
        other.feed(0, 0, 0, 0, 0);
        PondStair x = new PondStair();
        due("HILLS", x.count(0), 0);
        due("PLANS", x.count(1), 0);
        due("HILL 0", x.hill(0, 0), NONE);
        due("PLAN 0", x.work(0, 0, 0), REFUSED);
        due("POND 0", x.pond(0, NONE, 0, 0), REFUSED);
        for (int k = 0; k < 3; k++) {
            due("image " + k, x.again(k), false);
        }
        due("FAULT", x.fault(0), 0);
        due("its place", x.fault(1), NONE);
        due("a byte on the tape", x.end(1), NONE);
        due("the tape with twenty more", x.feed(0, 0, 0, 0, 0), 20);
    }

    private void count() {
        sentence("Promise 42", "How many: 0 HILLS, 1 PLANS.");
        PondStair x = new PondStair();
        for (int k = 0; k < 4; k++) {
            due("HILLS", x.count(0), Math.min(k, 2));
            due("PLANS", x.count(1), Math.min(k, 3));
            Tape.hill(x, "");
            due("a HILL is no PLAN", x.count(1), Math.min(k, 3));
            Tape.plan(x, "");
        }
        Tape.put(x, "x");
        x.text(0, 1);
        due("a FAULT takes none away", x.count(0), 2);
        Tape.put(x, "");
        x.text(1, 2);
        due("in the place of one is no further one", x.count(1), 3);
        sentence("Promise 42", "-2 for another what.");
        for (int what : new int[] {-2, -1, 2, 3, Integer.MIN_VALUE, Integer.MAX_VALUE}) {
            due("what " + what, x.count(what), REFUSED);
        }
    }

    /** One HILL, one PLAN, a FAULT, and a PLAN's text on the tape. */
    private PondStair told() {
        PondStair x = with("pond 5 4 3;goes 0 2;harm 0 7;rain 3 100;mend 9;", "low 0 2;out 0;");
        Tape.hill(x, "pond 1 1;");
        Tape.put(x, "out 6;");
        return x;
    }

    /** Changes all that is told; PLANS become three, HILLS two. */
    private void change(PondStair x) {
        Tape.put(x, "pond 9 9 9;pond 8 8 8;");
        x.text(0, 0);
        Tape.put(x, "round 3 4;");
        x.text(1, 0);
        Tape.hill(x, "pond 2 1 0;");
        Tape.plan(x, "out 1;");
        Tape.plan(x, "out 2;");
        Tape.put(x, "pond 25 0 0;");
        x.text(0, 0);
        x.feed(0x78787878, 0, 0, 0, 0);
    }

    private void image() {
        sentence("Promise 43", "Image k (0 .. 2) is all that is told (the tape, the FAULT, too), as it is now: true;");
        for (int k = 0; k < 3; k++) {
            PondStair x = told();
            due("image " + k, x.image(k), true);
            same("an image changes nothing told", Portrait.ofHillsAndPlans(x), Portrait.ofHillsAndPlans(told()));
            change(x);
            for (int other = 0; other < 3; other++) {
                if (other != k) {
                    due("image " + other + " is not made by it", x.again(other), false);
                }
            }
            due("again " + k, x.again(k), true);
            PondStair y = told();
            y.image(k);
            same("all is as image " + k + " has it", Portrait.of(x), Portrait.of(y));
        }
    }

    private void imageHasAll() {
        PondStair x = new PondStair();
        due("image of a new one", x.image(2), true);
        Tape.hill(x, "pond 1 1 1;");
        due("image of one HILL", x.image(1), true);
        Tape.plan(x, "out 3;");
        Tape.put(x, "y");
        due("image with a tape", x.image(0), true);
        x.text(0, NONE);
        int[][] want = {{1, 1, 0, 1}, {1, 0, 0, 0}, {0, 0, 0, 0}};
        for (int k : new int[] {0, 1, 2, 1, 0}) {
            due("again " + k, x.again(k), true);
            due("HILLS of " + k, x.count(0), want[k][0]);
            due("PLANS of " + k, x.count(1), want[k][1]);
            due("FAULT of " + k, x.fault(0), want[k][2]);
            due("the tape of " + k, x.feed(0, 0, 0, 0, 0), 20 + want[k][3]);
        }
        x.again(0);
        x.text(0, NONE);
        due("a FAULT", x.fault(0), 1);
        due("an image of it", x.image(0), true);
        x.again(2);
        due("FAULT of 2", x.fault(0), 0);
        x.again(0);
        due("FAULT, again", x.fault(0), 1);
        due("its place, again", x.fault(1), 0);
        due("the later image strikes: its tape", x.feed(0, 0, 0, 0, 0), 20);
    }

    private void refusedImage() {
        sentence("Promise 43", "false for another k.");
        for (int k : new int[] {-2, -1, 3, 4, Integer.MIN_VALUE, Integer.MAX_VALUE}) {
            PondStair x = told();
            due("image " + k, x.image(k), false);
            due("there is none such", x.again(k), false);
            same("all is as it was, after " + k, Portrait.of(x), Portrait.of(told()));
        }
    }

    private void again() {
        sentence("Promise 44", "All that is as image k has it: true;");
        PondStair x = told();
        x.image(0);
        change(x);
        x.image(1);
        due("again 0", x.again(0), true);
        due("the first HILL", x.pond(0, NONE, 0, 0), 5);
        due("the PLAN", x.work(0, 1, 0), 4);
        due("its FAULT", x.fault(0), 1);
        due("its place", x.fault(1), 8);
        due("HILLS", x.count(0), 1);
        due("no HILL 1", x.hill(1, 0), NONE);
        due("no PLAN 1", x.work(1, 0, 0), REFUSED);
        due("again 1", x.again(1), true);
        due("the changed HILL", x.pond(0, NONE, 1, 0), 8);
        due("HILLS", x.count(0), 2);
        due("PLANS", x.count(1), 3);
        due("its FAULT", x.fault(0), 2);
        due("its place", x.fault(1), 5);
        due("a further one is too many", x.text(0, NONE), REFUSED);
        due("again 0, a second time", x.again(0), true);
        change(x);
        due("again 0, a third time", x.again(0), true);
        due("what is done behind it leaves the image", x.pond(0, NONE, 0, 0), 5);
        due("its tape", x.end(6), 6);
        due("what is on it", x.text(1, NONE), 1);
        due("its WORK", x.work(1, 0, 1), 6);
        due("it is on the image's tape still", x.again(0), true);
        due("its tape once more", x.end(6), 6);
        due("and no more than that", x.end(7), NONE);
    }

    private void refusedAgain() {
        sentence("Promise 44", "false if there is none such.");
        for (int k : new int[] {-2, -1, 0, 2, 3, 4, Integer.MIN_VALUE, Integer.MAX_VALUE}) {
            PondStair x = told();
            x.image(1);
            due("again " + k, x.again(k), false);
            PondStair y = told();
            y.image(1);
            same("all is as it was, after " + k, Portrait.of(x), Portrait.of(y));
        }
        due("of a new one", new PondStair().again(1), false);
    }
}
