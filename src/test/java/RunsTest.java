import java.util.ArrayList;
import java.util.Collections;
import java.util.List;
import java.util.Random;
import java.util.TreeSet;
import java.util.function.Consumer;

/**
 * Each promise in a run of calls on one object: what a call answers, and what it leaves behind, as later calls show
 * it. Calls that ask are asked between all that can be told (Rows has them); calls that tell have runs of their own.
 */
public final class RunsTest {
    private static final int NONE = -1;
    private static final int REFUSED = -2;
    private static final Check CHECK = new Check();
    private static final TreeSet<Integer> RUN = new TreeSet<>();

    private RunsTest() {
    }

    public static void main(String[] args) {
        for (Row row : Rows.all()) {
            RUN.add(row.promise());
            amidTelling(row);
        }
        allOnOne();
        lastCalls();
        newObjects();
        feedToTheBrim();
        feedInBytes();
        endAndFeed();
        textsInPlaces();
        faultsByTheLatest();
        works();
        counts();
        imagesOfAll();
        imagesApart();
        nothingElse();
        for (int promise = 1; promise <= 44; promise++) {
            CHECK.isTrue("promise " + promise + " has a run", RUN.contains(promise));
        }
        CHECK.close();
    }

    private static void run(int... promises) {
        for (int promise : promises) {
            RUN.add(promise);
        }
    }

    private static void due(String call, long got, long want) {
        CHECK.same(call, got, want);
    }

    private static void due(String call, boolean got, boolean want) {
        CHECK.same(call, got, want);
    }

    private static int tell(PondStair x, int sort, int at, String text) {
        Tape.put(x, text);
        return x.text(sort, at);
    }

    // ---- calls that ask

    /** One call, asked behind all that changes what is told and all that is refused. */
    private static void amidTelling(Row row) {
        PondStair x = new PondStair();
        refuses(row, x, "a new object", 0, NONE);
        due("HILL 0", tell(x, 0, NONE, Rows.TOLD), 0);
        answers(row, x, "its HILL", 0, NONE, row.told());
        refuses(row, x, "no such HILL", 1, NONE);
        refuses(row, x, "no such HILL", NONE, NONE);
        if (row.hasPlan()) {
            refuses(row, x, "no such PLAN", 0, 0);
            refuses(row, x, "no such PLAN", 0, REFUSED);
        }
        due(row.call() + ", wrong", row.wrong().of(x, 0, NONE), row.refused());
        answers(row, x, "what was refused", 0, NONE, row.told());
        due("PLAN 0", tell(x, 1, NONE, Rows.PLAN), 0);
        answers(row, x, "its PLAN", 0, 0, row.planned());
        answers(row, x, "asking with a PLAN", 0, NONE, row.told());
        due("image 1", x.image(1), true);
        due("in the place of HILL 0", tell(x, 0, 0, Rows.OTHER), 0);
        answers(row, x, "another HILL", 0, NONE, row.other());
        due("a FAULT", tell(x, 0, 0, Rows.TOLD + "pond 1 2 3;"), NONE);
        answers(row, x, "a FAULT", 0, NONE, row.other());
        due("the FAULT is as it was", x.fault(0), 2);
        due("its place is as it was", x.fault(1), Rows.TOLD.length() + 7);
        due("HILL 1", tell(x, 0, NONE, Rows.TOLD), 1);
        answers(row, x, "a further HILL", 1, NONE, row.told());
        answers(row, x, "a further HILL", 1, 0, row.planned());
        answers(row, x, "asking of another HILL", 0, NONE, row.other());
        due("a third HILL", tell(x, 0, NONE, ""), REFUSED);
        due("an empty PLAN in the place of PLAN 0", tell(x, 1, 0, ""), 0);
        answers(row, x, "an empty PLAN", 1, 0, row.told());
        due("no image 0", x.again(0), false);
        answers(row, x, "an image that is not there", 0, 0, row.other());
        afterAgain(row, x);
    }

    private static void afterAgain(Row row, PondStair x) {
        due("again", x.again(1), true);
        answers(row, x, "again", 0, NONE, row.told());
        answers(row, x, "again", 0, 0, row.planned());
        refuses(row, x, "again, HILL 1", 1, NONE);
        Tape.put(x, Rows.OTHER);
        answers(row, x, "a tape that is not taken", 0, 0, row.planned());
        due(row.call() + ", wrong", row.wrong().of(x, 0, 0), row.refused());
        due("the tape is as it was", x.end(Rows.OTHER.length() + 1), NONE);
        due("it is taken", x.text(0, NONE), 1);
        answers(row, x, "the tape that was kept", 1, NONE, row.other());
        answers(row, x, "the tape that was kept", 0, 0, row.planned());
        due("HILLS", x.count(0), 2);
        due("PLANS", x.count(1), 1);
        PondStair y = new PondStair();
        tell(y, 0, NONE, Rows.TOLD);
        tell(y, 1, NONE, Rows.PLAN);
        y.image(1);
        tell(y, 0, NONE, Rows.OTHER);
        CHECK.isTrue(row.call() + " leaves nothing behind", Portrait.of(x).equals(Portrait.of(y)));
    }

    private static void answers(Row row, PondStair x, String behind, int hill, int plan, long want) {
        due(row.call() + " behind " + behind, row.ask().of(x, hill, plan), want);
    }

    private static void refuses(Row row, PondStair x, String behind, int hill, int plan) {
        answers(row, x, behind, hill, plan, row.refused());
    }

    /** All calls on one object, in many orders: what one leaves in the object's own rows is nothing to another. */
    private static void allOnOne() {
        List<Row> rows = new ArrayList<>(Rows.all());
        for (int seed = 0; seed < 60; seed++) {
            Random random = new Random(seed);
            Collections.shuffle(rows, random);
            PondStair x = new PondStair();
            tell(x, 0, NONE, Rows.TOLD);
            tell(x, 0, NONE, Rows.OTHER);
            tell(x, 1, NONE, Rows.PLAN);
            for (Row row : rows) {
                for (int k = 0; k < 2; k++) {
                    switch (random.nextInt(4)) {
                        case 0 -> answers(row, x, "others", 0, NONE, row.told());
                        case 1 -> answers(row, x, "others", 1, NONE, row.other());
                        case 2 -> answers(row, x, "others", 0, 0, row.planned());
                        default -> due(row.call() + ", wrong", row.wrong().of(x, 0, 0), row.refused());
                    }
                }
            }
        }
    }

    /** The 512th call answers as the first one does, whichever it is. */
    private static void lastCalls() {
        for (Row row : Rows.all()) {
            PondStair x = new PondStair();
            tell(x, 0, NONE, Rows.TOLD);
            tell(x, 1, NONE, Rows.PLAN);
            int telling = 6 + (Rows.TOLD.length() + 19) / 20 + (Rows.PLAN.length() + 19) / 20;
            for (int calls = telling; calls < 509; calls++) {
                due("MEAN behind " + calls + " calls", x.mean(0, 0, NONE), 242000);
            }
            answers(row, x, "509 calls", 0, NONE, row.told());
            answers(row, x, "510 calls", 0, 0, row.planned());
            refuses(row, x, "511 calls", 2, NONE);
        }
    }

    // ---- calls that tell

    /** Objects know nothing of one another, whatever is done between making the one and asking it. */
    private static void newObjects() {
        run(1);
        PondStair first = new PondStair();
        PondStair second = new PondStair();
        tell(first, 0, NONE, Rows.TOLD);
        tell(first, 1, NONE, Rows.PLAN);
        first.image(0);
        tell(first, 0, NONE, "pond;");
        first.feed(1, 2, 3, 4, 5);
        first.mean(0, 0, NONE);
        PondStair third = new PondStair();
        List<Long> empty = Portrait.of(new PondStair());
        CHECK.isTrue("one that was there already is new still", Portrait.of(second).equals(empty));
        CHECK.isTrue("a later one is new", Portrait.of(third).equals(empty));
        due("the first one's HILL", first.count(0), 1);
        due("the first one's FAULT", first.fault(1), 4);
        due("the first one's tape", first.feed(0, 0, 0, 0, 0), 40);
        due("the first one's image", first.again(0), true);
        due("without the FAULT", first.fault(0), 0);
    }

    /** What is refused is not on the tape: there it would be the first FAULT. */
    private static void feedToTheBrim() {
        run(2, 3);
        PondStair x = new PondStair();
        String line = "low 0 1;low 0 20;   ";
        int[] w = Tape.words(line, 0);
        for (int k = 1; k <= 30; k++) {
            due("feed " + k, x.feed(w[0], w[1], w[2], w[3], w[4]), 20L * k);
        }
        int[] bad = Tape.words("out out out out out ", 0);
        due("a feed too many", x.feed(bad[0], bad[1], bad[2], bad[3], bad[4]), NONE);
        due("and another", x.feed(bad[0], bad[1], bad[2], bad[3], bad[4]), NONE);
        due("it has 600", x.end(601), NONE);
        due("all of them", x.end(600), 600);
        due("taken: a 13th WORK", x.text(1, NONE), NONE);
        due("FAULT 3", x.fault(0), 3);
        due("at the 13th", x.fault(1), 120);
        due("the tape is empty", x.feed(bad[0], bad[1], bad[2], bad[3], bad[4]), 20);
        due("cut to nothing", x.end(0), 0);
        for (int k = 1; k <= 29; k++) {
            x.feed(w[0], w[1], w[2], w[3], w[4]);
        }
        due("of 580 one less", x.end(579), 579);
        due("it can be fed", x.feed(bad[0], bad[1], bad[2], bad[3], bad[4]), 599);
        due("but once", x.feed(bad[0], bad[1], bad[2], bad[3], bad[4]), NONE);
        due("cut to six WORKS", x.end(57), 57);
        due("six WORKS", x.text(1, NONE), 0);
        due("the sixth", x.work(0, 5, 2), 20);
        due("no seventh", x.work(0, 6, 2), REFUSED);
        due("nothing is left", x.end(1), NONE);
        due("the end of nothing", x.end(0), 0);
    }

    /** Each of the twenty bytes in its place, also those above 127: a wrong one is a FAULT there. */
    private static void feedInBytes() {
        run(2, 5);
        for (int place = 0; place < 20; place++) {
            PondStair x = new PondStair();
            for (int sign : new int[] {0, 9, 11, 13, 31, 33, 47, 58, 60, 64, 65, 90, 96, 123, 127, 128, 160, 176, 187, 225, 255}) {
                StringBuilder text = new StringBuilder(" ".repeat(20));
                text.setCharAt(place, (char) sign);
                int[] w = Tape.words(text.toString(), 0);
                due("feed", x.feed(w[0], w[1], w[2], w[3], w[4]), 20);
                due("sign " + sign, x.text(0, NONE), NONE);
                due("FAULT of sign " + sign, x.fault(0), 1);
                due("place of sign " + sign, x.fault(1), place);
            }
            due("no HILL", x.count(0), 0);
        }
    }

    /** What is behind the end is gone, and what is fed then comes at the end. */
    private static void endAndFeed() {
        run(3);
        PondStair x = new PondStair();
        Tape.put(x, "out 3;out 4;");
        due("below 0", x.end(-1), NONE);
        due("one more than there are", x.end(13), NONE);
        due("the first WORK", x.end(6), 6);
        due("the others are gone", x.end(7), NONE);
        int[] w = Tape.words("low 5 6;", 0);
        due("a feed behind it", x.feed(w[0], w[1], w[2], w[3], w[4]), 26);
        due("cut", x.end(14), 14);
        due("cut once more, where it is", x.end(14), 14);
        due("least of all", x.end(Integer.MIN_VALUE), NONE);
        due("most of all", x.end(Integer.MAX_VALUE), NONE);
        due("taken", x.text(1, NONE), 0);
        due("the first", x.work(0, 0, 1), 3);
        due("the second", x.work(0, 1, 1), 5);
        due("no third", x.work(0, 2, 1), REFUSED);
        Tape.put(x, "out 7;");
        due("a byte less breaks it off", x.end(5), 5);
        due("NONE", x.text(1, NONE), NONE);
        due("at the end", x.fault(1), 5);
        due("the PLAN is as it was", x.work(0, 1, 2), 6);
    }

    private static void textsInPlaces() {
        run(4, 42);
        PondStair x = new PondStair();
        due("a place that is not there", tell(x, 0, 0, "pond 1 1 1;"), REFUSED);
        due("the tape was taken", x.end(1), NONE);
        due("HILL 0", tell(x, 0, NONE, "pond 1 1 1;"), 0);
        due("PLAN place 1", tell(x, 1, 1, "out 0;"), REFUSED);
        due("PLAN 0", tell(x, 1, NONE, "out 1;"), 0);
        due("PLAN 1", tell(x, 1, NONE, "out 2;"), 1);
        due("a HILL's text as a PLAN", tell(x, 1, NONE, "pond 1 1 1;"), NONE);
        due("a PLAN's text as a HILL", tell(x, 0, NONE, "out 1;"), NONE);
        due("HILLS", x.count(0), 1);
        due("PLANS", x.count(1), 2);
        due("a FAULT in a place", tell(x, 1, 0, "out 3;out 9;"), NONE);
        due("what is there stays", x.work(0, 0, 1), 1);
        due("HILL 1", tell(x, 0, NONE, "pond 2 2 2;pond 3 3 3;down 0 1;"), 1);
        due("too many HILLS, though the text is right", tell(x, 0, NONE, "pond 4 4 4;"), REFUSED);
        due("too many HILLS, though the text is wrong", tell(x, 0, NONE, "pond 4 4 4 4;"), REFUSED);
        due("FAULT 0", x.fault(0), 0);
        due("in the place of HILL 1", tell(x, 0, 1, "pond 5 5 5;"), 1);
        due("nothing of the old one", x.hill(1, 0), 1);
        due("no DOWN of the old one", x.pond(1, NONE, 0, 8), NONE);
        due("HILL 0 stays", x.pond(0, NONE, 0, 0), 1);
        due("PLAN 2", tell(x, 1, NONE, "out 0;".repeat(12)), 2);
        due("in its place", tell(x, 1, 2, "low 0 1;"), 2);
        due("nothing of the old one", x.work(2, 1, 0), REFUSED);
        due("too many PLANS", tell(x, 1, NONE, "out 0;"), REFUSED);
        due("the place behind the last one", tell(x, 1, 3, "out 0;"), REFUSED);
        due("no such sort", tell(x, 2, 0, "out 0;"), REFUSED);
        due("no such sort", tell(x, -1, NONE, "out 0;"), REFUSED);
        due("HILLS", x.count(0), 2);
        due("PLANS", x.count(1), 3);
    }

    private static void faultsByTheLatest() {
        run(5);
        PondStair x = new PondStair();
        String[] texts = {"pond 1 1", "pond 1 2 1;", "rain 1 25;".repeat(5), "rain 1 25;".repeat(3), "rain 1 25;".repeat(4)};
        int[][] want = {{1, 8}, {2, 7}, {3, 40}, {4, 30}, {0, NONE}};
        for (int k : new int[] {0, 1, 2, 3, 4, 3, 2, 1, 0, 4, 0, 2, 4, 1, 3}) {
            due("text " + k, tell(x, 0, x.count(0) == 0 ? NONE : 0, texts[k]), k == 4 ? 0 : NONE);
            for (int twice = 0; twice < 2; twice++) {
                due("FAULT of text " + k, x.fault(0), want[k][0]);
                due("another what", x.fault(2), NONE);
                due("its place", x.fault(1), want[k][1]);
                due("another what", x.fault(-1), NONE);
            }
        }
        due("fed", x.feed(0, 0, 0, 0, 0), 20);
        due("a FAULT stays behind a feed", x.fault(0), 4);
        due("ended", x.end(0), 0);
        due("a FAULT stays behind an end", x.fault(1), 30);
        due("no such sort", x.text(9, NONE), REFUSED);
        due("no FAULT behind it", x.fault(0), 0);
        due("no place behind it", x.fault(1), NONE);
    }

    private static void works() {
        run(8);
        PondStair x = new PondStair();
        due("none", x.work(0, 0, 0), REFUSED);
        tell(x, 1, NONE, "mend 1 10;low 2 24;widen 3 1;round 8 0;out 5;");
        int[][] want = {{0, 1, 10}, {1, 2, 24}, {2, 3, 1}, {3, 8, 0}, {4, 5, NONE}};
        for (int round = 0; round < 2; round++) {
            for (int work = 0; work < 5; work++) {
                for (int what = 0; what < 3; what++) {
                    due("WORK " + work + ", what " + what, x.work(0, work, what), want[work][what]);
                }
                due("what 3", x.work(0, work, 3), REFUSED);
                due("what -1", x.work(0, work, -1), REFUSED);
            }
            due("WORK 5", x.work(0, 5, 0), REFUSED);
            due("WORK -1", x.work(0, -1, 0), REFUSED);
            due("PLAN 1", x.work(1, 0, 0), REFUSED);
            due("PLAN NONE", x.work(NONE, 0, 0), REFUSED);
            // A HILL on which these can't be changes nothing of what the PLAN tells.
            tell(x, 0, round == 0 ? NONE : 0, "pond 1 1 1;");
            due("STOP", x.plan(0, 0, 0), 0);
        }
        x.image(2);
        due("in its place", tell(x, 1, 0, "out 0;"), 0);
        due("its WORK", x.work(0, 0, 0), 4);
        due("no WORK 1", x.work(0, 1, 0), REFUSED);
        x.again(2);
        due("WORK 1, again", x.work(0, 1, 2), 24);
    }

    private static void counts() {
        run(42);
        PondStair x = new PondStair();
        x.image(0);
        for (int k = 0; k < 5; k++) {
            due("HILLS", x.count(0), Math.min(k, 2));
            due("PLANS", x.count(1), 0);
            due("another what", x.count(2), REFUSED);
            due("another what", x.count(-1), REFUSED);
            tell(x, 0, NONE, "");
        }
        for (int k = 0; k < 5; k++) {
            due("PLANS", x.count(1), Math.min(k, 3));
            due("HILLS", x.count(0), 2);
            tell(x, 1, NONE, "");
        }
        x.again(0);
        due("HILLS, again", x.count(0), 0);
        due("PLANS, again", x.count(1), 0);
    }

    private static void imagesOfAll() {
        run(43, 44);
        PondStair x = new PondStair();
        due("again of none", x.again(0), false);
        due("image 0 of a new one", x.image(0), true);
        tell(x, 0, NONE, Rows.TOLD);
        tell(x, 1, NONE, Rows.PLAN);
        tell(x, 0, NONE, "pond 1 1 1 1;");
        Tape.put(x, "out 8;");
        due("image 2", x.image(2), true);
        due("another k", x.image(3), false);
        due("another k", x.image(-1), false);
        due("image 1 is none", x.again(1), false);
        due("what is refused changes nothing: MEAN", x.mean(0, 0, NONE), 242000);
        due("what is refused changes nothing: FAULT", x.fault(1), 11);
        due("again 0", x.again(0), true);
        due("no HILL", x.mean(0, NONE, NONE), NONE);
        due("no FAULT", x.fault(0), 0);
        due("no tape", x.end(1), NONE);
        due("a HILL of its own then", tell(x, 0, NONE, Rows.OTHER), 0);
        due("again 2", x.again(2), true);
        due("MEAN", x.mean(0, 0, NONE), 242000);
        due("FAULT", x.fault(0), 1);
        due("its place", x.fault(1), 11);
        due("its tape is whole", x.end(7), NONE);
        due("its tape", x.text(1, NONE), 1);
        due("its tape's WORK", x.work(1, 0, 1), 8);
        due("again 2, once more", x.again(2), true);
        due("no PLAN 1", x.work(1, 0, 1), REFUSED);
        due("its tape, once more", x.end(6), 6);
    }

    /** An image is struck by a later one of its number alone, and by nothing that is told. */
    private static void imagesApart() {
        run(43, 44);
        PondStair x = new PondStair();
        for (int k = 0; k < 3; k++) {
            tell(x, 1, k == 0 ? NONE : 0, "out " + k + ";");
            due("image " + k, x.image(k), true);
        }
        tell(x, 1, 0, "out 7;");
        for (int k : new int[] {1, 0, 2, 2, 0, 1}) {
            due("again " + k, x.again(k), true);
            due("its WORK", x.work(0, 0, 1), k);
            tell(x, 1, 0, "low 4 4;");
            due("another one", x.work(0, 0, 1), 4);
        }
        due("image 1, later", x.image(1), true);
        due("again 3", x.again(3), false);
        due("nothing happens", x.work(0, 0, 1), 4);
        int[] want = {0, 4, 2};
        for (int k = 0; k < 3; k++) {
            due("again " + k, x.again(k), true);
            due("its WORK now", x.work(0, 0, 1), want[k]);
        }
    }

    /** What calls by which an object is seen and told leave behind: what they are for, and nothing else. */
    private static void nothingElse() {
        List<Consumer<PondStair>> calls = List.of(
            x -> due("FAULT", x.fault(0), 2),
            x -> due("its place", x.fault(1), 7),
            x -> due("another FAULT", x.fault(2), NONE),
            x -> due("MEND", x.hill(0, 2), 3),
            x -> due("another HILL", x.hill(1, 2), NONE),
            x -> due("DOWN", x.pond(0, 0, 0, 8), 1),
            x -> due("another POND", x.pond(0, 0, 2, 8), REFUSED),
            x -> due("WORK", x.work(0, 1, 2), 2),
            x -> due("another WORK", x.work(0, 3, 0), REFUSED),
            x -> due("PLANS", x.count(1), 1),
            x -> due("another count", x.count(2), REFUSED),
            x -> due("the tape's end where it is", x.end(586), 586),
            x -> due("a byte too many", x.end(587), NONE),
            x -> due("twenty bytes too many", x.feed(1, 2, 3, 4, 5), NONE),
            x -> due("image 0", x.image(0), true),
            x -> due("image 1", x.image(1), true),
            x -> due("another image", x.image(3), false),
            x -> due("again 1", x.again(1), true),
            x -> due("again 2", x.again(2), false),
            x -> due("another again", x.again(-1), false));
        for (int k = 0; k < calls.size(); k++) {
            PondStair x = new PondStair();
            tell(x, 0, NONE, Rows.TOLD);
            tell(x, 1, NONE, Rows.PLAN);
            tell(x, 0, 0, "pond 1 2 3;");
            Tape.put(x, "out 6;" + " ".repeat(580));
            x.image(1);
            for (int twice = 0; twice < 2; twice++) {
                calls.get(k).accept(x);
                isAsTold(x, "call " + k);
            }
            x.end(0);
            x.text(0, NONE);
            due("PLAN 0", tell(x, 1, 0, "low 0 1;"), 0);
            calls.get(9).accept(x);
            due("again 1 behind call " + k, x.again(1), true);
            isAsTold(x, "again behind call " + k);
            due("the tape behind call " + k, x.text(1, NONE), 1);
            due("its WORK behind call " + k, x.work(1, 0, 1), 6);
        }
    }

    /** Looks with calls that are due to change nothing, each time with all of them. */
    private static void isAsTold(PondStair x, String behind) {
        due("FAULT behind " + behind, x.fault(0), 2);
        due("its place behind " + behind, x.fault(1), 7);
        due("HILLS behind " + behind, x.count(0), 1);
        due("PLANS behind " + behind, x.count(1), 1);
        due("MEAN behind " + behind, x.mean(0, NONE, NONE), 830000);
        due("MEAN with the PLAN behind " + behind, x.mean(0, 0, NONE), 242000);
        due("DAYS behind " + behind, x.plan(0, 0, 1), 16);
        due("the WORK behind " + behind, x.work(0, 0, 2), 4);
        due("a byte too many behind " + behind, x.end(587), NONE);
        due("the tape's end behind " + behind, x.end(586), 586);
        due("images behind " + behind, x.again(2), false);
    }
}
