/** Each promise of the document, by answers worked out by hand. */
public final class PromiseTest {
    private static final int NONE = -1;
    private static final Check CHECK = new Check();

    /**
     * Rain 0 (0 STEPS): without banks none goes; 0 alone is heard at the gate of 1, which lets its 4 out, and
     * fills 2 to the brim. Rain 1 (3 STEPS): all three go, whatever banks go. PARTS: 100000.
     */
    private static final String BASE = "pond 5 3 1;pond 4 4 0;pond 6 2 2;down 0 1;down 1 2;bears 1 1;goes 0 5;goes 2 1;"
        + "harm 0 10;harm 1 100;harm 2 7;rain 0 50;rain 3 50;mend 2;rice 1 3;owner 1 1;way 0 9;gate 1 5;sign 0 8 2;";
    private static final String PLAN_0 = "low 0 1;mend 0 2;widen 1 3;round 0 2;out 2;mend 2 1;";
    private static final String PLAN_1 = "low 1 2;widen 1 24;";

    private PromiseTest() {
    }

    private static PondStair base() {
        PondStair x = with(BASE);
        Tape.plan(x, PLAN_0);
        Tape.plan(x, PLAN_1);
        return x;
    }

    private static PondStair with(String hill) {
        PondStair x = new PondStair();
        CHECK.same("taking " + hill, Tape.hill(x, hill), 0);
        return x;
    }

    private static void due(String call, long got, long want) {
        CHECK.same(call, got, want);
    }

    public static void main(String[] args) {
        newObject();
        feedAndEnd();
        text();
        faults();
        hill();
        pond();
        workAndPlan();
        storm();
        stormByWords();
        likelyMeanRows();
        brings();
        bestAndSteps();
        mendedAndSpend();
        one();
        low();
        owners();
        hear();
        may();
        thinkAndNow();
        years();
        sparedDeepSafe();
        weighs();
        uponAndRuns();
        jointAndGiven();
        worstAndFlood();
        around();
        twice();
        better();
        images();
        CHECK.close();
    }

    /** Promises 1, 42. */
    private static void newObject() {
        PondStair x = new PondStair();
        due("NONE", PondStair.NONE, -1);
        due("count(0)", x.count(0), 0);
        due("count(1)", x.count(1), 0);
        due("count(2)", x.count(2), -2);
        due("count(-1)", x.count(-1), -2);
        due("fault(0)", x.fault(0), 0);
        due("fault(1)", x.fault(1), NONE);
        due("hill(0, 0)", x.hill(0, 0), NONE);
        due("pond(0, -1, 0, 0)", x.pond(0, -1, 0, 0), -2);
        due("work(0, 0, 0)", x.work(0, 0, 0), -2);
        due("end(1)", x.end(1), NONE);
        for (int k = -1; k < 4; k++) {
            CHECK.same("again(" + k + ")", x.again(k), false);
        }
        PondStair y = base();
        due("count(0) of base", y.count(0), 1);
        due("count(1) of base", y.count(1), 2);
    }

    /** Promises 2, 3. */
    private static void feedAndEnd() {
        PondStair x = new PondStair();
        for (int k = 1; k <= 30; k++) {
            due("feed " + k, x.feed(0, 0, 0, 0, 0), 20 * k);
        }
        due("feed 31", x.feed(0, 0, 0, 0, 0), NONE);
        due("end(601)", x.end(601), NONE);
        due("end(-1)", x.end(-1), NONE);
        due("end(600)", x.end(600), 600);
        due("end(581)", x.end(581), 581);
        due("feed at 581", x.feed(0, 0, 0, 0, 0), NONE);
        due("end(580)", x.end(580), 580);
        due("feed at 580", x.feed(0, 0, 0, 0, 0), 600);
        due("end(0)", x.end(0), 0);
        due("end(1)", x.end(1), NONE);
        // The highest byte first, of numbers below 0 too: byte 1 is 200, no sign of any text.
        x.feed(0x3bc83b3b, 0, 0, 0, 0);
        x.end(2);
        x.text(0, NONE);
        due("fault of ; first", x.fault(1), 0);
        x.feed(0x20c83b3b, 0, 0, 0, 0);
        x.end(2);
        x.text(0, NONE);
        due("fault of byte 200", x.fault(1), 1);
        x.feed(0xa0202020, 0, 0, 0, 0);
        x.end(1);
        due("byte 160 is no blank", x.text(0, NONE), NONE);
    }

    /** Promise 4. */
    private static void text() {
        PondStair x = new PondStair();
        due("empty hill", Tape.hill(x, ""), 0);
        due("second hill", Tape.hill(x, "pond 1 1 1;"), 1);
        int[][] refused = {{0, NONE}, {2, NONE}, {2, 0}, {-1, NONE}, {0, 2}, {0, -2}, {1, 0}};
        for (int[] to : refused) {
            Tape.put(x, "pond 2 2 2;;");
            due("sort " + to[0] + " at " + to[1], x.text(to[0], to[1]), -2);
            due("the tape is taken then", x.end(1), NONE);
            due("FAULT 0 then", x.fault(0), 0);
            due("place NONE then", x.fault(1), NONE);
        }
        due("the next bytes are the first", x.feed(0, 0, 0, 0, 0), 20);
        due("no HILL more", x.count(0), 2);
        due("no PLAN", x.count(1), 0);
        Tape.put(x, "pond 2 2 2;");
        due("in the place of 0", x.text(0, 0), 0);
        due("it is there", x.pond(0, NONE, 0, 2), 2);
        due("the other one stays", x.pond(1, NONE, 0, 2), 1);
        due("the tape is empty", x.end(1), NONE);
        due("count(0)", x.count(0), 2);
        for (int k = 0; k < 3; k++) {
            due("plan " + k, Tape.plan(x, "out " + k + ";"), k);
        }
        due("fourth plan", Tape.plan(x, "out 5;"), -2);
        Tape.put(x, "out 5;");
        due("in the place of plan 1", x.text(1, 1), 1);
        due("its WORK", x.work(1, 0, 1), 5);
        Tape.put(x, "pond 25 0 0;");
        due("a FAULT", x.text(0, 1), NONE);
        due("a FAULT takes the tape", x.end(1), NONE);
        due("and changes no HILL", x.pond(1, NONE, 0, 0), 1);
        due("FAULT 2", x.fault(0), 2);
        x.text(7, NONE);
        due("FAULT 0 by -2", x.fault(0), 0);
        due("place NONE by -2", x.fault(1), NONE);
    }

    private static void fails(int sort, String text, int fault, int place) {
        PondStair x = new PondStair();
        Tape.put(x, text);
        due("text of <" + text + ">", x.text(sort, NONE), fault == 0 ? 0 : NONE);
        due("FAULT of <" + text + ">", x.fault(0), fault);
        due("place of <" + text + ">", x.fault(1), place);
        due("fault(2)", x.fault(2), NONE);
        due("fault(-1)", x.fault(-1), NONE);
        due("count after <" + text + ">", x.count(sort), fault == 0 ? 1 : 0);
    }

    /** Promise 5, and the texts of Terms 1. */
    private static void faults() {
        brokenTexts();
        hillNumbers();
        planNumbers();
        tooMany();
        fails(0, "rain 1 99;", 4, 10);
        fails(0, "rain 1 99; \n", 4, 12);
        fails(0, "rain 1 99;rain 2 2;", 4, 19);
        fails(0, "rain 1 99;rain 2 1;", 0, NONE);
        fails(0, "rain 0 100;rain 9 0;", 0, NONE);
        fails(0, "pond 25 0 0;rain 1 99;", 2, 5);
        fails(0, "", 0, NONE);
        fails(1, "", 0, NONE);
        fails(0, " \n ", 0, NONE);
    }

    private static void brokenTexts() {
        fails(0, "pond 1 1;", 1, 8);
        fails(0, "pond 1 1 1", 1, 10);
        fails(0, "pond 1 1 1  ", 1, 12);
        fails(0, "pond 1 1 1 1;", 1, 11);
        fails(0, "pon 1 1 1;", 1, 0);
        fails(0, "ponds 1 1 1;", 1, 0);
        fails(0, "pondz 1 1 1;", 1, 0);
        fails(0, "xond 1 1 1;", 1, 0);
        fails(0, "a", 1, 0);
        fails(0, " Pond 1 1 1;", 1, 1);
        fails(0, "pond 1 1 1;;", 1, 11);
        fails(0, "pond 1 1 1;7", 1, 11);
        fails(0, "pond 1,1 1;", 1, 6);
        fails(0, "pond#", 1, 4);
        fails(0, "pond -1 1 1;", 1, 5);
        fails(0, "pond\t1 1 1;", 1, 4);
        fails(0, "mend 1000;", 1, 5);
        fails(0, "mend 0001;", 1, 5);
        fails(0, "mend 099;", 0, NONE);
        fails(0, "mend 5 1000;", 1, 7);
        fails(0, "pond1 1\n1;mend 5 ;", 0, NONE);
        fails(0, "low 0 1;", 1, 0);
        fails(1, "wide 1;", 1, 0);
        fails(1, "out", 1, 3);
        fails(1, "out 0 1;", 1, 6);
        fails(1, "round 0;", 1, 7);
        fails(1, "pond 1 1 1;", 1, 0);
        fails(0, "pond 25 0 0;mend 100;x", 1, 21);
        fails(0, "pond 25 0 0", 1, 11);
    }

    private static void hillNumbers() {
        fails(0, "pond 25 0 0;", 2, 5);
        fails(0, "pond 24 24 9;", 0, NONE);
        fails(0, "pond 3 4 0;", 2, 7);
        fails(0, "pond 3 3 10;", 2, 9);
        fails(0, "pond 3 4 10;", 2, 7);
        fails(0, "down 0 1;", 2, 5);
        fails(0, "pond 1 1 1;down 0 0;", 2, 18);
        fails(0, "pond 1 1 1;down 0 1;pond 1 1 1;", 2, 18);
        fails(0, "pond 1 1 1;pond 1 1 1;down 0 1;", 0, NONE);
        fails(0, "pond 1 1 1;pond 1 1 1;down 1 0;", 2, 29);
        fails(0, "pond 1 1 1;pond 1 1 1;down 0 2;", 2, 29);
        fails(0, "pond 1 1 1;pond 1 1 1;aside 0 1 10;", 0, NONE);
        fails(0, "pond 1 1 1;pond 1 1 1;aside 0 1 11;", 2, 32);
        fails(0, "pond 1 1 1;pond 1 1 1;aside 0 0 1;", 2, 30);
        String[] lines = {"bears 0 25", "goes 0 11", "harm 0 1000", "owner 0 4", "rice 0 100", "way 0 100", "gate 0 100"};
        int[] most = {24, 10, 999, 3, 99, 99, 99};
        for (int k = 0; k < lines.length; k++) {
            String word = lines[k].substring(0, lines[k].indexOf(' '));
            fails(0, "pond 1 1 1;" + lines[k] + ";", k == 2 ? 1 : 2, 14 + word.length());
            fails(0, "pond 1 1 1;" + word + " 0 " + most[k] + ";", 0, NONE);
            fails(0, "pond 1 1 1;" + word + " 1 0;", 2, 12 + word.length());
            fails(0, word + " 0 0;pond 1 1 1;", 2, 1 + word.length());
        }
        fails(0, "pond 1 1 1;sign 1 0 0;", 2, 16);
        fails(0, "pond 1 1 1;sign 0 11 0;", 2, 18);
        fails(0, "pond 1 1 1;sign 0 0 11;", 2, 20);
        fails(0, "pond 1 1 1;sign 0 10 10;", 0, NONE);
        fails(0, "rain 10 100;", 2, 5);
        fails(0, "rain 9 100;", 0, NONE);
        fails(0, "rain 1 101;", 2, 7);
        fails(0, "mend 100;", 2, 5);
        fails(0, "wide 100;", 2, 5);
        fails(0, "round 100;", 2, 6);
        fails(0, "mend 99;wide 99;round 99;", 0, NONE);
        fails(0, "pond 25 0 0;harm 0 5;mend 100;", 2, 5);
    }

    private static void planNumbers() {
        String[] words = {"mend", "low", "widen"};
        int[] most = {10, 24, 24};
        for (int k = 0; k < words.length; k++) {
            int at = words[k].length();
            fails(1, words[k] + " 9 1;", 2, at + 1);
            fails(1, words[k] + " 8 0;", 2, at + 3);
            fails(1, words[k] + " 8 1;", 0, NONE);
            fails(1, words[k] + " 8 " + most[k] + ";", 0, NONE);
            fails(1, words[k] + " 8 " + (most[k] + 1) + ";", 2, at + 3);
        }
        fails(1, "round 0 9;", 2, 8);
        fails(1, "round 9 0;", 2, 6);
        fails(1, "round 8 0;", 0, NONE);
        fails(1, "out 9;", 2, 4);
        fails(1, "out 8;", 0, NONE);
    }

    private static void tooMany() {
        fails(0, "pond 0 0 0;".repeat(9), 0, NONE);
        fails(0, "pond 0 0 0;".repeat(10), 3, 99);
        fails(0, "pond 0 0 0;".repeat(9) + "mend 100;" + "pond 0 0 0;", 2, 104);
        fails(0, "pond 0 0 0;".repeat(9) + "pond 99 0 0;", 3, 99);
        fails(0, "rain 1 25;".repeat(4), 0, NONE);
        fails(0, "rain 1 20;".repeat(5), 3, 40);
        fails(0, "rain 1 20;".repeat(4) + " rain 1 200;", 3, 41);
        fails(1, "out 0;".repeat(12), 0, NONE);
        fails(1, "out 0;".repeat(13), 3, 72);
        fails(1, "out 9;".repeat(13), 2, 4);
    }

    /** Promise 6. */
    private static void hill() {
        PondStair x = base();
        int[] what = {0, 1, 2, 3, 4, 10, 11, 20, 21, 5, 9, 12, 19, 22, -1};
        int[] want = {3, 2, 2, 1, 1, 0, 3, 50, 50, NONE, NONE, NONE, NONE, NONE, NONE};
        for (int k = 0; k < what.length; k++) {
            due("hill(0, " + what[k] + ")", x.hill(0, what[k]), want[k]);
        }
        due("hill(1, 0)", x.hill(1, 0), NONE);
        due("hill(-1, 0)", x.hill(-1, 0), NONE);
        Tape.hill(x, "wide 7;round 9;wide 8;mend 0;");
        due("no PONDS", x.hill(1, 0), 0);
        due("RAINS without any", x.hill(1, 1), 1);
        due("its STEPS", x.hill(1, 10), 0);
        due("its CHANCE", x.hill(1, 20), 100);
        due("another RAIN", x.hill(1, 11), NONE);
        due("MEND", x.hill(1, 2), 0);
        due("WIDE, the later one", x.hill(1, 3), 8);
        due("ROUND", x.hill(1, 4), 9);
    }

    /** Promise 7. */
    private static void pond() {
        PondStair x = base();
        int[][] want = {
            {5, 3, 1, 0, 5, 10, 0, 0, 1, NONE, 0, 9, NONE, 8, 2, 0},
            {4, 4, 0, 1, 0, 100, 1, 3, 2, NONE, 0, 0, 5, 0, 0, 0},
            {6, 2, 2, 0, 1, 7, 0, 0, NONE, NONE, 0, 0, NONE, 0, 0, 0},
        };
        for (int p = 0; p < 3; p++) {
            for (int what = 0; what < 16; what++) {
                due("pond(0, -1, " + p + ", " + what + ")", x.pond(0, NONE, p, what), want[p][what]);
            }
        }
        due("what 16", x.pond(0, NONE, 0, 16), -2);
        due("what -1", x.pond(0, NONE, 0, -1), -2);
        due("pond 3", x.pond(0, NONE, 3, 0), -2);
        due("pond -1", x.pond(0, NONE, -1, 0), -2);
        due("hill 1", x.pond(1, NONE, 0, 0), -2);
        due("plan 2", x.pond(0, 2, 0, 0), -2);
        due("plan -2", x.pond(0, -2, 0, 0), -2);
        due("LEVEL, lowered", x.pond(0, 0, 0, 1), 2);
        due("CHANCE, mended", x.pond(0, 0, 0, 4), 3);
        due("BEARS, widened", x.pond(0, 0, 1, 3), 4);
        due("DOWN, led round", x.pond(0, 0, 0, 8), 2);
        int[] out = {0, 0, 2, 0, 0, 7, 0, 0, NONE, NONE, 0, 0, NONE, 0, 0, 1};
        for (int what = 0; what < 16; what++) {
            due("OUT, what " + what, x.pond(0, 0, 2, what), out[what]);
        }
        due("behind STOP", x.pond(0, 1, 1, 3), 1);
        PondStair y = with("pond 9 8 7;pond 1 1 1;pond 2 2 2;aside 0 1 3;aside 0 2 4;harm 0 5;harm 0 6;down 0 2;down 0 1;");
        due("ASIDE, the later one", y.pond(0, NONE, 0, 9), 2);
        due("n of 10", y.pond(0, NONE, 0, 10), 4);
        due("HARM, the later one", y.pond(0, NONE, 0, 5), 6);
        due("DOWN, the later one", y.pond(0, NONE, 0, 8), 1);
    }

    /** Promises 8, 9. */
    private static void workAndPlan() {
        PondStair x = base();
        int[][] want = {{1, 0, 1}, {0, 0, 2}, {2, 1, 3}, {3, 0, 2}, {4, 2, NONE}, {0, 2, 1}};
        for (int w = 0; w < 6; w++) {
            for (int what = 0; what < 3; what++) {
                due("work(0, " + w + ", " + what + ")", x.work(0, w, what), want[w][what]);
            }
        }
        due("work 6", x.work(0, 6, 0), -2);
        due("work -1", x.work(0, -1, 0), -2);
        due("what 3", x.work(0, 0, 3), -2);
        due("what -1", x.work(0, 0, -1), -2);
        due("plan 2", x.work(2, 0, 0), -2);
        due("plan NONE", x.work(NONE, 0, 0), -2);
        due("STOP at OUT", x.plan(0, 0, 0), 5);
        due("DAYS", x.plan(0, 0, 1), 8);
        due("LOST", x.plan(0, 0, 2), 0);
        due("STOP above 24", x.plan(0, 1, 0), 1);
        due("DAYS of low", x.plan(0, 1, 1), 0);
        due("LOST of low", x.plan(0, 1, 2), 6);
        due("without WORKS", x.plan(0, NONE, 0) + x.plan(0, NONE, 1) + x.plan(0, NONE, 2), 0);
        due("what 3", x.plan(0, 0, 3), NONE);
        due("what -1", x.plan(0, 0, -1), NONE);
        due("hill 1", x.plan(1, 0, 0), NONE);
        due("plan 2", x.plan(0, 2, 0), NONE);
        due("plan -2", x.plan(0, -2, 0), NONE);
        stops();
    }

    private static void stops() {
        String hill = "pond 9 5 0;pond 9 5 0;pond 1 0 0;goes 0 4;rice 0 7;bears 1 20;mend 3;wide 5;round 11;down 0 2;down 1 2;";
        String[] plans = {
            "mend 0 4;", "mend 0 5;", "mend 0 3;mend 0 2;", "low 0 5;", "low 0 6;", "widen 1 4;", "widen 1 5;", "round 0 1;",
            "round 0 0;", "round 1 0;", "round 1 3;", "round 2 8;", "mend 3 1;", "out 3;", "out 0;", "out 0;out 0;",
            "out 0;round 0 1;", "out 0;widen 0 1;", "low 0 2;out 0;", "out 1;round 0 1;", "round 1 2;",
        };
        int[][] want = {
            {1, 12, 0}, {0, 0, 0}, {1, 9, 0}, {1, 0, 35}, {0, 0, 0}, {1, 20, 0}, {0, 0, 0}, {1, 11, 0},
            {0, 0, 0}, {0, 0, 0}, {0, 0, 0}, {0, 0, 0}, {0, 0, 0}, {0, 0, 0}, {1, 0, 35}, {1, 0, 35},
            {1, 0, 35}, {1, 0, 35}, {2, 0, 35}, {2, 11, 0}, {1, 11, 0},
        };
        PondStair x = with(hill);
        Tape.plan(x, "");
        for (int k = 0; k < plans.length; k++) {
            Tape.put(x, plans[k]);
            due("taking " + plans[k], x.text(1, 0), 0);
            for (int what = 0; what < 3; what++) {
                due("plan(0, 0, " + what + ") of " + plans[k], x.plan(0, 0, what), want[k][what]);
            }
        }
    }

    /** Promise 10. */
    private static void storm() {
        PondStair x = base();
        int[] what = {0, 1, 10, 11, 12, 20, 21, 22, 30, 31, 32, 40};
        int[] dry = {0, 0, 3, 4, 2, 0, 0, 0, 0, 0, 0, 0};
        int[] top = {1, 10, 3, 3, 6, 3, 4, 0, 0, 1, 0, 0};
        int[] wet = {7, 117, 6, 6, 18, 6, 10, 18, 0, 1, 0, 18};
        for (int k = 0; k < what.length; k++) {
            due("dry, " + what[k], x.storm(0, NONE, 0, 0, what[k]), dry[k]);
            due("top, " + what[k], x.storm(0, NONE, 0, 1, what[k]), top[k]);
            due("wet, " + what[k], x.storm(0, NONE, 1, 0, what[k]), wet[k]);
        }
        for (int wrong : new int[] {-1, 2, 9, 13, 19, 23, 33, 39, 41, 50, -10}) {
            due("what " + wrong, x.storm(0, NONE, 0, 0, wrong), NONE);
        }
        due("rain 2", x.storm(0, NONE, 2, 0, 0), NONE);
        due("rain -1", x.storm(0, NONE, -1, 0, 0), NONE);
        due("banks 8", x.storm(0, NONE, 0, 8, 0), NONE);
        due("banks -1", x.storm(0, NONE, 0, -1, 0), NONE);
        due("banks 7", x.storm(0, NONE, 0, 7, 0), 7);
        due("hill 1", x.storm(1, NONE, 0, 0, 0), NONE);
        due("plan 2", x.storm(0, 2, 0, 0, 0), NONE);
        // By plan 0 POND 2 is OUT: its bank never goes, and all leaves it.
        due("OUT never GOES", x.storm(0, 0, 1, 4, 0), 0);
        due("OUT, WATER", x.storm(0, 0, 1, 4, 12), 6);
        due("OUT, all leaves", x.storm(0, 0, 1, 4, 22), 6);
        due("OUT, the brook", x.storm(0, 0, 1, 4, 40), 6);
    }

    /** Promise 10 by the words of Terms 2: ASIDE, BEARS, GATE. */
    private static void stormByWords() {
        // 17 leave POND 0: 3 of 10, cut, are 5, to 2; 12 to 1.
        PondStair x = with("pond 24 17 0;pond 20 0 0;pond 20 0 0;down 0 1;aside 0 2 3;");
        due("down", x.storm(0, NONE, 0, 1, 11), 12);
        due("aside", x.storm(0, NONE, 0, 1, 12), 5);
        // Without DOWN the rest goes to the brook; ASIDE and DOWN may be one.
        x = with("pond 24 17 0;pond 20 0 0;aside 0 1 3;");
        due("aside alone", x.storm(0, NONE, 0, 1, 11), 5);
        due("the rest", x.storm(0, NONE, 0, 1, 40), 12);
        x = with("pond 24 17 0;pond 20 0 0;aside 0 1 3;down 0 1;");
        due("both to one", x.storm(0, NONE, 0, 1, 11), 17);
        // BEARS: as much above HOLDS is still borne.
        x = with("pond 4 4 1;bears 0 2;rain 2 50;rain 3 50;");
        due("borne", x.storm(0, NONE, 0, 0, 0), 0);
        due("what is above HOLDS leaves", x.storm(0, NONE, 0, 0, 20), 2);
        due("not borne", x.storm(0, NONE, 1, 0, 0), 1);
        due("all leaves", x.storm(0, NONE, 1, 0, 20), 7);
        // A GATE hears by ASIDE of 0 of 10 too, if WAY is at least its GATE.
        x = with("pond 5 5 0;pond 9 7 0;aside 0 1 0;way 0 4;gate 1 4;");
        due("heard", x.storm(0, NONE, 0, 1, 31), 1);
        due("WATER without LEVEL", x.storm(0, NONE, 0, 1, 11), 0);
        due("LEVEL leaves", x.storm(0, NONE, 0, 1, 21), 7);
        due("unheard, as none went", x.storm(0, NONE, 0, 0, 31), 0);
        due("its own bank goes, heard", x.storm(0, NONE, 0, 3, 21), 7);
        x = with("pond 5 5 0;pond 9 7 0;down 0 1;way 0 3;gate 1 4;");
        due("heard too late", x.storm(0, NONE, 0, 1, 31), 0);
        x = with("pond 5 5 0;pond 9 7 0;down 0 1;gate 1 0;");
        due("a GATE of 0", x.storm(0, NONE, 0, 1, 31), 1);
        // A POND that is OUT and has a GATE is heard as any other.
        x = with("pond 5 5 0;pond 9 7 0;down 0 1;gate 1 0;");
        Tape.plan(x, "out 1;");
        due("OUT and heard", x.storm(0, 0, 0, 1, 31), 1);
        due("OUT and heard: what leaves", x.storm(0, 0, 0, 1, 21), 5);
    }

    /** Promises 11, 12, 13. */
    private static void likelyMeanRows() {
        PondStair x = base();
        due("PARTS", x.likely(0, NONE, NONE), 100000);
        due("LIKELY 0", x.likely(0, NONE, 0), 75000);
        due("LIKELY 1", x.likely(0, NONE, 1), 50000);
        due("LIKELY 2", x.likely(0, NONE, 2), 55000);
        due("LIKELY 3", x.likely(0, NONE, 3), NONE);
        due("LIKELY -2", x.likely(0, NONE, -2), NONE);
        due("LIKELY, hill 1", x.likely(1, NONE, 0), NONE);
        due("LIKELY, plan 2", x.likely(0, 2, 0), NONE);
        due("MEAN", x.mean(0, NONE, NONE), 6135000);
        due("MEAN of 0", x.mean(0, NONE, 0), 1135000);
        due("MEAN of 1", x.mean(0, NONE, 1), 5000000);
        due("MEAN of one without PONDS", x.mean(0, NONE, 3), 0);
        due("MEAN of 4", x.mean(0, NONE, 4), NONE);
        due("MEAN of -2", x.mean(0, NONE, -2), NONE);
        due("MEAN, hill -1", x.mean(-1, NONE, NONE), NONE);
        due("MEAN by a PLAN", x.mean(0, 0, NONE), 300000);
        due("MEAN, plan -2", x.mean(0, -2, NONE), NONE);
        due("ROWS", x.rows(0, NONE, false), 7);
        due("ROWS, PARTS", x.rows(0, NONE, true), 50000);
        due("ROWS, hill 1", x.rows(1, NONE, false), NONE);
        due("ROWS, plan 2", x.rows(0, 2, true), NONE);
        PondStair y = with("pond 1 0 0;pond 1 0 0;goes 0 5;goes 1 5;");
        due("ROWS: of several the least", y.rows(0, NONE, false), 0);
        due("its PARTS", y.rows(0, NONE, true), 2500);
        PondStair z = with("");
        due("no PONDS: PARTS", z.likely(0, NONE, NONE), 100);
        due("no PONDS: MEAN", z.mean(0, NONE, NONE), 0);
        due("no PONDS: ROWS", z.rows(0, NONE, false), 0);
        due("no PONDS: its PARTS", z.rows(0, NONE, true), 100);
        due("no PONDS: LIKELY 0", z.likely(0, NONE, 0), NONE);
        PondStair nine = with("pond 0 0 0;".repeat(9) + "goes 8 10;harm 8 999;");
        due("nine: PARTS", nine.likely(0, NONE, NONE), 100000000000L);
        due("nine: MEAN", nine.mean(0, NONE, NONE), 99900000000000L);
    }

    /** Promise 14. */
    private static void brings() {
        PondStair x = base();
        due("BRINGS 1", x.brings(0, NONE, 0, 1), 2);
        due("BRINGS 2", x.brings(0, NONE, 0, 2), 4);
        due("BRINGS by RAIN 1", x.brings(0, NONE, 1, 2), 0);
        due("BRINGS of one OUT", x.brings(0, 0, 0, 2), NONE);
        due("BRINGS 3", x.brings(0, NONE, 0, 3), NONE);
        due("BRINGS -1", x.brings(0, NONE, 0, -1), NONE);
        due("BRINGS, rain 2", x.brings(0, NONE, 2, 0), NONE);
        due("BRINGS, hill 1", x.brings(1, NONE, 0, 0), NONE);
        due("BRINGS, plan 2", x.brings(0, 2, 0, 0), NONE);
        PondStair y = with("pond 5 1 0;pond 5 5 0;pond 5 5 0;down 0 2;down 1 2;");
        due("BRINGS: of several the least", y.brings(0, NONE, 0, 2), 1);
        due("BRINGS: itself", y.brings(0, NONE, 0, 1), 2);
    }

    /** Promises 15, 16. */
    private static void bestAndSteps() {
        PondStair x = base();
        int[] days = {0, 1, 2, 9, 10, 11, 12, 9999};
        int[] want = {0, 0, 4, 4, 1, 1, 5, 5};
        for (int k = 0; k < days.length; k++) {
            due("best for " + days[k], x.best(0, NONE, 7, days[k]), want[k]);
            due("steps for " + days[k], x.steps(0, NONE, 7, days[k]), want[k]);
        }
        due("best of none", x.best(0, NONE, 0, 50), 0);
        due("steps of none", x.steps(0, NONE, 0, 50), 0);
        due("best of those alone", x.best(0, NONE, 4, 50), 4);
        for (int wrong : new int[] {-1, 10000}) {
            due("best, days " + wrong, x.best(0, NONE, 7, wrong), NONE);
            due("steps, days " + wrong, x.steps(0, NONE, 7, wrong), NONE);
        }
        for (int wrong : new int[] {-1, 8}) {
            due("best, ponds " + wrong, x.best(0, NONE, wrong, 9), NONE);
            due("steps, ponds " + wrong, x.steps(0, NONE, wrong, 9), NONE);
        }
        due("best, hill 1", x.best(1, NONE, 1, 9), NONE);
        due("steps, plan 2", x.steps(0, 2, 1, 9), NONE);
        PondStair six = with("pond 1 0 0;".repeat(6));
        due("best of 6", six.best(0, NONE, 63, 9), NONE);
        due("steps of 6", six.steps(0, NONE, 63, 9), NONE);
        due("best of 5", six.best(0, NONE, 62, 9), 0);
        stepsByDays();
    }

    private static void stepsByDays() {
        // By days: 0 is 3 of 3 days, 1 is 8 of 4 days and 2 is 8 of 4 days (x 10000).
        String ponds = "pond 1 0 0;pond 1 0 0;pond 1 0 0;goes 0 3;goes 1 4;goes 2 4;harm 0 1;harm 1 2;harm 2 2;";
        PondStair x = with(ponds);
        due("steps: of several the least", x.steps(0, NONE, 7, 4), 2);
        due("steps: days left", x.steps(0, NONE, 7, 7), 3);
        due("best: as steps", x.best(0, NONE, 7, 7), 3);
        // Greedy takes 0 (9 by 3 days) and has no days for 1 and 2.
        x = with("pond 1 0 0;pond 1 0 0;goes 0 3;goes 1 4;harm 0 3;harm 1 2;");
        due("steps: the dearest by its days", x.steps(0, NONE, 3, 4), 1);
        x = with("pond 1 0 0;pond 1 0 0;goes 0 2;goes 1 4;harm 0 3;harm 1 2;");
        due("steps: most by days", x.steps(0, NONE, 3, 4), 1);
        due("best: most of all", x.best(0, NONE, 3, 4), 2);
        // Without days all that lessens is mended; what lessens nothing is not.
        x = with("mend 0;pond 1 0 0;pond 1 0 0;goes 0 2;goes 1 4;harm 1 2;");
        due("steps: for nothing", x.steps(0, NONE, 3, 0), 2);
        due("steps: all for nothing", with("mend 0;pond 1 0 0;pond 1 0 0;goes 0 2;goes 1 4;harm 0 1;harm 1 2;").steps(0, NONE, 3, 0), 3);
        due("best: for nothing", x.best(0, NONE, 3, 0), 2);
        // A bank that goes by itself lets the GATE below hear: to mend it makes MEAN greater.
        x = with("pond 5 5 0;pond 5 5 0;down 0 1;gate 1 0;goes 0 5;goes 1 5;harm 1 9;rain 0 100;");
        due("steps: none that lessens nothing", x.steps(0, NONE, 1, 99), 0);
        // Equal MEAN: the fewest days, then the least number.
        x = with("pond 1 0 0;pond 1 0 0;goes 0 5;goes 1 5;harm 0 4;harm 1 4;");
        due("best: the least number", x.best(0, NONE, 3, 5), 1);
        due("best: nothing for nothing", with("pond 1 0 0;goes 0 5;").best(0, NONE, 1, 99), 0);
        // By a PLAN: CHANCES are what it leaves.
        x = base();
        due("best by a PLAN, 5", x.best(0, 0, 7, 5), 0);
        due("best by a PLAN, 6", x.best(0, 0, 7, 6), 1);
    }

    /** Promises 17, 41. */
    private static void mendedAndSpend() {
        PondStair x = base();
        int[] sets = {0, 1, 4, 5, 7, 2, 8, -1};
        long[] want = {6135000, 5885000, 6100000, 5850000, 5850000, 6135000, NONE, NONE};
        for (int k = 0; k < sets.length; k++) {
            due("mended(" + sets[k] + ")", x.mended(0, NONE, sets[k]), want[k]);
        }
        due("mended, hill 1", x.mended(1, NONE, 0), NONE);
        due("mended, plan 2", x.mended(0, 2, 0), NONE);
        int[] m = {100, 99, 96, 95, 0, -1, 101};
        int[] days = {0, 10, 10, NONE, NONE, NONE, NONE};
        for (int k = 0; k < m.length; k++) {
            due("spend to " + m[k], x.spend(0, NONE, 5, m[k]), days[k]);
        }
        due("spend, of 2 alone", x.spend(0, NONE, 4, 99), NONE);
        due("spend, ponds 8", x.spend(0, NONE, 8, 100), NONE);
        due("spend, hill 1", x.spend(1, NONE, 0, 100), NONE);
        due("spend, plan 2", x.spend(0, 2, 0, 100), NONE);
        due("spend of none", x.spend(0, NONE, 0, 100), 0);
        PondStair six = with("pond 1 0 0;".repeat(6) + "goes 0 5;harm 0 2;");
        due("spend of 6", six.spend(0, NONE, 63, 100), NONE);
        due("mended of 6", six.mended(0, NONE, 63), 0);
        due("spend to 0", six.spend(0, NONE, 31, 0), 5);
        due("spend to 0 of 0", with("pond 1 0 0;").spend(0, NONE, 1, 0), 0);
    }

    /** Promise 18. */
    private static void one() {
        PondStair x = base();
        due("ONE", x.one(0, NONE, false), 0);
        due("ONE, much", x.one(0, NONE, true), 385000);
        due("ONE, hill 1", x.one(1, NONE, false), NONE);
        due("ONE, plan 2", x.one(0, 2, true), NONE);
        PondStair none = with("");
        due("ONE of none", none.one(0, NONE, false), NONE);
        due("ONE of none, much", none.one(0, NONE, true), NONE);
        PondStair y = with("pond 1 0 0;pond 1 0 0;goes 0 5;goes 1 5;harm 0 4;harm 1 4;");
        due("ONE: of several the least", y.one(0, NONE, false), 0);
        due("ONE: much", y.one(0, NONE, true), 20000);
        // All that comes stays: 9 of POND 0 never reach 2, whose bank they would run over.
        PondStair z = with("pond 9 9 0;pond 1 1 0;pond 1 1 0;down 0 1;down 1 2;goes 0 5;harm 2 8;harm 1 1;");
        due("ONE holds all", z.one(0, NONE, false), 0);
        due("ONE holds all, much", z.one(0, NONE, true), 0);
        // A heard GATE lets out the LEVEL alone: that is what was there, not what comes.
        PondStair g = with("pond 9 9 0;pond 9 3 0;pond 3 3 0;down 0 1;down 1 2;goes 0 10;gate 1 0;harm 0 9;harm 2 2;");
        Tape.plan(g, "low 0 9;");
        due("ONE with a GATE", g.one(0, NONE, false), 0);
        due("ONE with a GATE, much", g.one(0, NONE, true), 0);
    }

    /** Promise 19. */
    private static void low() {
        PondStair x = base();
        due("LOW 0", x.low(0, NONE, 0), 1);
        due("LOW 1", x.low(0, NONE, 1), 0);
        due("LOW 2", x.low(0, NONE, 2), 0);
        due("LOW 3", x.low(0, NONE, 3), NONE);
        due("LOW -1", x.low(0, NONE, -1), NONE);
        due("LOW, hill 1", x.low(1, NONE, 0), NONE);
        due("LOW, plan 2", x.low(0, 2, 0), NONE);
        // By 1 lower it never goes in 9 STEPS: 10 of HARM against RICE.
        String hill = "pond 9 9 1;harm 0 10;rain 1 100;rice 0 ";
        due("LOW for less RICE", with(hill + "9;").low(0, NONE, 0), 1);
        due("LOW by all", with("pond 1 1 1;harm 0 10;rain 1 100;rice 0 1;").low(0, NONE, 0), 1);
        due("LOW for as much", with(hill + "10;").low(0, NONE, 0), 0);
        due("LOW for more", with(hill + "11;").low(0, NONE, 0), 0);
    }

    /** Promises 20, 21. */
    private static void owners() {
        PondStair x = base();
        due("HELPS 0, 1", x.helps(0, NONE, 0, 1), 0);
        due("HELPS 0, 0", x.helps(0, NONE, 0, 0), 285000);
        due("HELPS 1, 0", x.helps(0, NONE, 1, 0), 0);
        due("ALONE 0", x.alone(0, NONE, 0), 1135000);
        due("ALONE 1", x.alone(0, NONE, 1), 5000000);
        due("ALONE 2", x.alone(0, NONE, 2), 0);
        // POND 0 of 1 brings POND 1 of 2 down: 5 of 10; by itself that goes 2 of 10.
        PondStair y = with("pond 5 5 0;pond 5 5 0;down 0 1;goes 0 5;goes 1 2;harm 0 3;harm 1 10;owner 0 1;owner 1 2;");
        due("MEAN of 2", y.mean(0, NONE, 2), 60000);
        due("HELPS 1, 2", y.helps(0, NONE, 1, 2), 40000);
        due("HELPS 2, 2", y.helps(0, NONE, 2, 2), 10000);
        due("HELPS 2, 1", y.helps(0, NONE, 2, 1), 0);
        due("ALONE 2, of y", y.alone(0, NONE, 2), 20000);
        due("ALONE 1, of y", y.alone(0, NONE, 1), 15000);
        // His bank going is what the other's GATE hears: without it the other is harmed more.
        PondStair z = with("pond 5 3 0;pond 9 1 9;pond 9 9 0;down 0 2;down 1 2;bears 1 1;goes 0 5;gate 2 0;harm 2 2;owner 2 1;rain 1 100;");
        due("HELPS below 0", z.helps(0, NONE, 0, 1), -100000);
        for (int wrong : new int[] {-1, 4}) {
            due("HELPS " + wrong + ", 0", x.helps(0, NONE, wrong, 0), -1);
            due("HELPS 0, " + wrong, x.helps(0, NONE, 0, wrong), -1);
            due("ALONE " + wrong, x.alone(0, NONE, wrong), NONE);
        }
        due("HELPS, hill 1", x.helps(1, NONE, 0, 0), -1);
        due("HELPS, plan 2", x.helps(0, 2, 0, 0), -1);
        due("ALONE, hill 1", x.alone(1, NONE, 0), NONE);
        due("ALONE, plan 2", x.alone(0, 2, 0), NONE);
    }

    /** Promise 22. */
    private static void hear() {
        PondStair x = base();
        due("HEAR, too late", x.hear(0, NONE, 1, 10), -2657500);
        due("HEAR, as it is", x.hear(0, NONE, 1, 9), 0);
        due("HEAR 2", x.hear(0, NONE, 2, 0), 0);
        PondStair y = with("pond 5 5 0;pond 9 9 0;down 0 1;goes 0 5;way 0 4;harm 1 2;");
        due("HEAR in time", y.hear(0, NONE, 1, 4), 10000);
        due("HEAR late", y.hear(0, NONE, 1, 5), 0);
        due("HEAR m -1", x.hear(0, NONE, 1, -1), Long.MIN_VALUE);
        due("HEAR m 100", x.hear(0, NONE, 1, 100), Long.MIN_VALUE);
        due("HEAR m 99", y.hear(0, NONE, 1, 99), 0);
        due("HEAR pond 3", x.hear(0, NONE, 3, 0), Long.MIN_VALUE);
        due("HEAR hill 1", x.hear(1, NONE, 0, 0), Long.MIN_VALUE);
        due("HEAR plan 2", x.hear(0, 2, 0, 0), Long.MIN_VALUE);
    }

    /** Promises 23, 24. */
    private static void may() {
        PondStair x = base();
        due("MAY", x.may(0, NONE, 5, false), 1770000);
        due("MAY of FIRST", x.may(0, NONE, 5, true), 1770000);
        due("ORDER 0: of several the less", x.order(0, NONE, 5, 0), 0);
        due("ORDER 1", x.order(0, NONE, 5, 1), 2);
        due("ORDER 2", x.order(0, NONE, 5, 2), NONE);
        due("ORDER -1", x.order(0, NONE, 5, -1), NONE);
        for (int wrong : new int[] {0, -1, 8}) {
            due("MAY of " + wrong, x.may(0, NONE, wrong, false), NONE);
            due("FIRST of " + wrong, x.may(0, NONE, wrong, true), NONE);
            due("ORDER of " + wrong, x.order(0, NONE, wrong, 0), NONE);
        }
        due("MAY, hill 1", x.may(1, NONE, 1, false), NONE);
        due("MAY, plan 2", x.may(0, 2, 1, false), NONE);
        due("ORDER, hill 1", x.order(1, NONE, 1, 0), NONE);
        due("ORDER, plan 2", x.order(0, 2, 1, 0), NONE);
        // 0 full alone does no harm to 1; 1 full alone is run over by the 1 that 0 has.
        String ponds = "pond 4 1 9;pond 4 0 9;down 0 1;goes 0 5;harm 0 1;harm 1 10;rain 9 100;";
        PondStair y = with(ponds);
        due("MAY: 0, then 1", y.may(0, NONE, 3, false), 60000);
        due("FIRST: 1, then 0", y.may(0, NONE, 3, true), 110000);
        due("ORDER 0 of y", y.order(0, NONE, 3, 0), 0);
        due("ORDER 1 of y", y.order(0, NONE, 3, 1), 1);
        due("MAY of one", y.may(0, NONE, 2, false), 55000);
        PondStair z = with("pond 4 0 9;pond 4 1 9;down 0 1;goes 0 5;harm 0 1;harm 1 10;rain 9 100;");
        due("MAY: 1, then 0", z.may(0, NONE, 3, false), 60000);
        due("FIRST likewise", z.may(0, NONE, 3, true), 60000);
        due("ORDER 0 of z", z.order(0, NONE, 3, 0), 1);
        due("ORDER 1 of z", z.order(0, NONE, 3, 1), 0);
        PondStair five = with("pond 1 0 0;".repeat(5));
        due("MAY of 5", five.may(0, NONE, 31, false), NONE);
        due("ORDER of 5", five.order(0, NONE, 31, 0), NONE);
        due("MAY of 4", five.may(0, NONE, 30, false), 0);
        for (int k = 0; k < 4; k++) {
            due("ORDER of 4, " + k, five.order(0, NONE, 30, k), 1 + k);
        }
    }

    /** Promises 25, 26. */
    private static void thinkAndNow() {
        PondStair x = base();
        due("THINK above", x.think(0, NONE, 0, false), 4);
        due("THINK below", x.think(0, NONE, 0, true), 5);
        due("both 0, above", x.think(0, NONE, 1, false), 0);
        due("both 0, below", x.think(0, NONE, 1, true), 1);
        due("THINK by a PLAN, above", x.think(0, 0, 0, false), 12);
        due("THINK by a PLAN, below", x.think(0, 0, 0, true), 19);
        due("THINK 3", x.think(0, NONE, 3, false), NONE);
        due("THINK -1", x.think(0, NONE, -1, true), NONE);
        due("THINK, hill 1", x.think(1, NONE, 0, false), NONE);
        due("THINK, plan 2", x.think(0, 2, 0, false), NONE);
        PondStair y = with("pond 1 0 0;pond 1 0 0;sign 0 9 3;sign 1 4 0;goes 1 3;harm 0 99;");
        due("above 0", y.think(0, NONE, 0, false), 0);
        due("0 in least terms", y.think(0, NONE, 0, true), 1);
        due("sure, above", y.think(0, NONE, 1, false), 1);
        due("sure, below", y.think(0, NONE, 1, true), 1);
        due("NOW: none above 0", y.now(0, NONE), NONE);
        due("NOW", x.now(0, NONE), 0);
        due("NOW, hill 1", x.now(1, NONE), NONE);
        due("NOW, plan 2", x.now(0, 2), NONE);
        // 1 by 2 of 6, 3 by 4 of 4, 1 by 1 of 3: the second and the third are alike.
        PondStair z = with("pond 1 0 0;pond 1 0 0;pond 1 0 0;goes 0 5;goes 1 5;goes 2 5;"
            + "sign 0 1 1;sign 1 3 1;sign 2 1 0;harm 0 5;harm 1 4;harm 2 3;");
        due("NOW: of several the least", z.now(0, NONE), 1);
        due("NOW without PONDS", with("").now(0, NONE), NONE);
    }

    /** Promise 27. */
    private static void years() {
        PondStair x = base();
        int[][] runs = {{1, 10}, {-7, 99}, {0, 1}, {2026, 5}};
        int[] what = {0, 1, 2, 10, 11, 12};
        int[][] want = {{819, 7, 7, 7, 7, 7}, {6359, 79, 0, 76, 52, 57}, {0, 0, 0, 0, 0, 0}, {351, 3, 7, 3, 3, 3}};
        for (int r = 0; r < runs.length; r++) {
            for (int k = 0; k < what.length; k++) {
                due("years by " + runs[r][0] + ", " + what[k], x.years(0, NONE, runs[r][0], runs[r][1], what[k]), want[r][k]);
            }
        }
        for (int wrong : new int[] {-1, 3, 9, 13, 19}) {
            due("years, what " + wrong, x.years(0, NONE, 1, 10, wrong), NONE);
        }
        for (int wrong : new int[] {-1, 0, 100}) {
            due("years, n " + wrong, x.years(0, NONE, 1, wrong, 0), NONE);
        }
        due("years, hill 1", x.years(1, NONE, 1, 1, 0), NONE);
        due("years, plan 2", x.years(0, 2, 1, 1, 0), NONE);
        // By seed 1 the first number below 100 is 38: RAIN 1 of 38, 62 by their CHANCES, RAIN 0 of 39, 61.
        due("a RAIN behind another one", with("pond 1 0 1;rain 0 38;rain 9 62;").years(0, NONE, 1, 1, 2), 1);
        due("still the first RAIN", with("pond 1 0 1;rain 0 39;rain 9 61;").years(0, NONE, 1, 1, 2), 0);
        // Then 6 and 3 below 10: a bank goes, if its CHANCE is above that.
        due("below its CHANCE", with("pond 1 0 0;goes 0 7;").years(0, NONE, 1, 1, 2), 1);
        due("not below it", with("pond 1 0 0;goes 0 6;").years(0, NONE, 1, 1, 2), 0);
        due("the second POND", with("pond 1 0 0;pond 1 0 0;goes 1 4;").years(0, NONE, 1, 1, 2), 2);
        due("not below it, the second", with("pond 1 0 0;pond 1 0 0;goes 1 3;").years(0, NONE, 1, 1, 2), 0);
    }

    /** Promises 28, 29, 30. */
    private static void sparedDeepSafe() {
        PondStair x = base();
        due("SPARED by RAIN 0", x.spared(0, NONE, 0), 7);
        due("SPARED by RAIN 1", x.spared(0, NONE, 1), 1);
        due("SPARED by RAIN 2", x.spared(0, NONE, 2), NONE);
        due("SPARED by RAIN -1", x.spared(0, NONE, -1), NONE);
        due("SPARED, hill 1", x.spared(1, NONE, 0), NONE);
        due("SPARED, plan 2", x.spared(0, 2, 0), NONE);
        due("SPARED with one OUT", x.spared(0, 0, 0), 8);
        due("SPARED without PONDS", with("").spared(0, NONE, 0), 1);
        due("DEEP", x.deep(0, NONE), 3);
        due("DEEP by a PLAN", x.deep(0, 0), 1);
        due("DEEP, hill 1", x.deep(1, NONE), NONE);
        due("DEEP, plan 2", x.deep(0, 2), NONE);
        due("DEEP: banks that CAN go", with("pond 5 5 0;pond 5 5 0;pond 1 0 0;down 0 1;goes 2 1;").deep(0, NONE), 1);
        due("DEEP: a bank that goes for sure may stay",
            with("pond 5 5 0;pond 9 9 0;pond 9 9 0;down 0 1;down 1 2;goes 0 10;gate 1 0;goes 1 1;").deep(0, NONE), 3);
        due("DEEP: by a RAIN without CHANCE", with("pond 1 0 1;rain 0 100;rain 9 0;").deep(0, NONE), 1);
        due("DEEP without PONDS", with("").deep(0, NONE), 0);
        due("SAFE", x.safe(0, NONE), 2);
        due("SAFE by a PLAN", x.safe(0, 0), 3);
        due("SAFE, hill 1", x.safe(1, NONE), NONE);
        due("SAFE, plan 2", x.safe(0, 2), NONE);
        due("SAFE without TAKE", with("pond 1 1 0;pond 5 5 0;down 0 1;").safe(0, NONE), 9);
        due("SAFE: all", with("pond 9 0 1;").safe(0, NONE), 9);
        due("SAFE: all but one", with("pond 8 0 1;").safe(0, NONE), 8);
        due("SAFE: 0 alone", with("pond 0 0 1;").safe(0, NONE), 0);
        due("SAFE without PONDS", with("").safe(0, NONE), 9);
    }

    /** Promise 31. */
    private static void weighs() {
        PondStair x = base();
        due("WEIGHS", x.weighs(0, NONE), 1);
        due("WEIGHS, hill 1", x.weighs(1, NONE), NONE);
        due("WEIGHS, plan 2", x.weighs(0, 2), NONE);
        due("WEIGHS: none adds", with("pond 1 0 0;goes 0 3;").weighs(0, NONE), NONE);
        due("WEIGHS: none adds, though there is HARM", with("pond 1 0 0;goes 0 10;harm 0 5;").weighs(0, NONE), NONE);
        due("WEIGHS: not one of 10", with("pond 1 0 0;pond 1 0 0;goes 0 10;harm 0 9;harm 1 1;").weighs(0, NONE), 1);
        due("WEIGHS: of several the least", with("pond 1 0 0;pond 1 0 0;harm 0 9;harm 1 9;").weighs(0, NONE), 0);
        PondStair y = with("pond 1 0 0;pond 1 0 0;harm 0 9;harm 1 1;");
        Tape.plan(y, "out 0;");
        due("WEIGHS: none that is OUT", y.weighs(0, 0), 1);
        due("WEIGHS without PONDS", with("").weighs(0, NONE), NONE);
    }

    /** Promises 32, 33. */
    private static void uponAndRuns() {
        PondStair x = base();
        int[][] want = {{0, 6}, {1, 4}, {3, 0}};
        for (int p = 0; p < 3; p++) {
            due("UPON " + p, x.upon(0, NONE, p, false), want[p][0]);
            due("BELOW " + p, x.upon(0, NONE, p, true), want[p][1]);
        }
        due("UPON by a PLAN", x.upon(0, 0, 1, false), 0);
        due("UPON 3", x.upon(0, NONE, 3, false), NONE);
        due("BELOW -1", x.upon(0, NONE, -1, true), NONE);
        due("UPON, hill 1", x.upon(1, NONE, 0, false), NONE);
        due("UPON, plan 2", x.upon(0, 2, 0, false), NONE);
        PondStair y = with("pond 1 0 0;pond 1 0 0;pond 1 0 0;pond 1 0 0;aside 0 2 0;down 2 3;down 1 3;");
        due("UPON by ASIDE of 0", y.upon(0, NONE, 3, false), 7);
        due("BELOW by ASIDE of 0", y.upon(0, NONE, 0, true), 12);
        for (int p = 0; p < 3; p++) {
            due("RUNS " + p, x.runs(0, NONE, p), 3);
        }
        due("RUNS by a PLAN", x.runs(0, 0, 0), 4);
        due("RUNS of one OUT", x.runs(0, 0, 2), NONE);
        due("RUNS by none", x.runs(0, 0, 1), NONE);
        due("RUNS 3", x.runs(0, NONE, 3), NONE);
        due("RUNS, hill 1", x.runs(1, NONE, 0), NONE);
        due("RUNS, plan 2", x.runs(0, 2, 0), NONE);
        due("RUNS by 9", with("pond 8 0 1;").runs(0, NONE, 0), 9);
    }

    /** Promises 34, 35. */
    private static void jointAndGiven() {
        PondStair x = base();
        due("JOINT 0, 2", x.joint(0, NONE, 0, 2), 52500);
        due("JOINT 2, 0", x.joint(0, NONE, 2, 0), 52500);
        due("JOINT 0, 0", x.joint(0, NONE, 0, 0), 75000);
        due("JOINT 0, 3", x.joint(0, NONE, 0, 3), NONE);
        due("JOINT -1, 0", x.joint(0, NONE, -1, 0), NONE);
        due("JOINT, hill 1", x.joint(1, NONE, 0, 0), NONE);
        due("JOINT, plan 2", x.joint(0, 2, 0, 0), NONE);
        due("GIVEN 0, 2", x.given(0, NONE, 0, 2, false), 7);
        due("GIVEN 0, 2, under", x.given(0, NONE, 0, 2, true), 10);
        due("GIVEN 2, 0", x.given(0, NONE, 2, 0, false), 21);
        due("GIVEN 2, 0, under", x.given(0, NONE, 2, 0, true), 22);
        due("GIVEN 0, 2 by a PLAN", x.given(0, 0, 0, 2, false), 0);
        due("GIVEN 0, 2 by a PLAN, under", x.given(0, 0, 0, 2, true), 1);
        due("GIVEN 2, 0: in no PARTS", x.given(0, 0, 2, 0, false), NONE);
        due("GIVEN 2, 2: in no PARTS, under", x.given(0, 0, 2, 2, true), NONE);
        due("GIVEN 3, 0", x.given(0, NONE, 3, 0, false), NONE);
        due("GIVEN 0, -1", x.given(0, NONE, 0, -1, false), NONE);
        due("GIVEN, hill 1", x.given(1, NONE, 0, 0, false), NONE);
        due("GIVEN, plan 2", x.given(0, 2, 0, 0, false), NONE);
    }

    /** Promises 36, 37. */
    private static void worstAndFlood() {
        PondStair x = base();
        long[] want = {1, 0, 117, 22500};
        for (int what = 0; what < 4; what++) {
            due("worst " + what, x.worst(0, NONE, what), want[what]);
        }
        due("worst 4", x.worst(0, NONE, 4), NONE);
        due("worst -1", x.worst(0, NONE, -1), NONE);
        due("worst, hill 1", x.worst(1, NONE, 0), NONE);
        due("worst, plan 2", x.worst(0, 2, 0), NONE);
        // RAIN 0 has no PARTS, and no STORM without bank 0 has.
        PondStair y = with("pond 5 1 0;pond 5 5 1;down 0 1;goes 0 10;harm 0 2;harm 1 3;rain 9 0;rain 1 100;");
        due("worst: with PARTS, RAIN", y.worst(0, NONE, 0), 1);
        due("worst: with PARTS, banks", y.worst(0, NONE, 1), 1);
        due("worst: with PARTS, HARM", y.worst(0, NONE, 2), 5);
        due("worst: with PARTS, PARTS", y.worst(0, NONE, 3), 10000);
        PondStair z = with("");
        due("worst without PONDS", z.worst(0, NONE, 3), 100);
        due("FLOOD", x.flood(0, NONE), 18);
        due("FLOOD by a PLAN", x.flood(0, 0), 11);
        due("FLOOD with PARTS", y.flood(0, NONE), 7);
        due("FLOOD without any bank", with("pond 0 0 4;rain 2 100;bears 0 9;").flood(0, NONE), 8);
        due("FLOOD with all banks", with("pond 9 4 0;pond 9 7 0;goes 0 1;goes 1 1;").flood(0, NONE), 11);
        due("FLOOD by the first RAIN", with("pond 9 0 3;rain 3 1;rain 0 99;goes 0 1;").flood(0, NONE), 9);
        due("FLOOD without PONDS", z.flood(0, NONE), 0);
        due("FLOOD, hill 1", x.flood(1, NONE), NONE);
        due("FLOOD, plan 2", x.flood(0, 2), NONE);
    }

    /** Promise 38. */
    private static void around() {
        PondStair x = base();
        due("AROUND", x.around(0, NONE, false), 0);
        due("AROUND, second", x.around(0, NONE, true), 2);
        due("AROUND: none less", x.around(0, 0, false), NONE);
        due("AROUND: none less, second", x.around(0, 0, true), NONE);
        due("AROUND, hill 1", x.around(1, NONE, false), NONE);
        due("AROUND, plan 2", x.around(0, 2, true), NONE);
        // Either of 0 and 1 led to 3, or 0 to 2, spares all: the least ones.
        PondStair y = with("pond 5 5 0;pond 0 0 0;pond 24 0 0;pond 24 0 0;down 0 1;goes 0 5;harm 1 9;");
        due("AROUND: of several the least", y.around(0, NONE, false), 0);
        due("AROUND: then the least second", y.around(0, NONE, true), 2);
        PondStair next = with("pond 5 5 0;pond 24 0 0;pond 0 0 0;down 0 2;goes 0 5;harm 2 9;");
        due("AROUND: to the next one", next.around(0, NONE, false), 0);
        due("AROUND: to the next one, second", next.around(0, NONE, true), 1);
        // What is OUT is not led around, though it would help.
        PondStair z = with("pond 5 5 9;pond 4 4 0;pond 24 0 0;down 0 1;harm 1 9;rain 1 100;");
        Tape.plan(z, "out 0;");
        due("AROUND: an OUT one leads on", z.mean(0, 0, NONE), 900000);
        due("AROUND: not one OUT", z.around(0, 0, false), NONE);
        due("AROUND: without the PLAN", z.around(0, NONE, true), 2);
    }

    /** Promise 39. */
    private static void twice() {
        PondStair x = base();
        int[] what = {0, 1, 10, 20, 11, 21, 12, 22, 30, 31, 32, 40};
        int[] want = {6, 107, 3, 3, 6, 6, 18, 18, 0, 0, 0, 18};
        for (int k = 0; k < what.length; k++) {
            due("twice " + what[k], x.twice(0, NONE, 0, 1, 1, 0, what[k]), want[k]);
        }
        due("all went before", x.twice(0, NONE, 1, 0, 0, 7, 0), 0);
        due("it was for this call alone", x.storm(0, NONE, 0, 7, 0), 7);
        due("HOLDS at most", with("pond 4 4 1;bears 0 2;rain 2 100;").twice(0, NONE, 0, 0, 0, 0, 10), 6);
        due("one OUT stays so", x.twice(0, 0, 1, 0, 1, 4, 0), 1);
        due("one OUT takes what comes", x.twice(0, 0, 1, 0, 1, 4, 12), 14);
        due("rain 2", x.twice(0, NONE, 2, 0, 0, 0, 0), NONE);
        due("banks 8", x.twice(0, NONE, 0, 8, 0, 0, 0), NONE);
        due("next 2", x.twice(0, NONE, 0, 0, 2, 0, 0), NONE);
        due("next -1", x.twice(0, NONE, 0, 0, -1, 0, 0), NONE);
        due("others 8", x.twice(0, NONE, 0, 0, 0, 8, 0), NONE);
        due("others -1", x.twice(0, NONE, 0, 0, 0, -1, 0), NONE);
        due("what 13", x.twice(0, NONE, 0, 0, 0, 0, 13), NONE);
        due("what 2", x.twice(0, NONE, 0, 0, 0, 0, 2), NONE);
        due("hill 1", x.twice(1, NONE, 0, 0, 0, 0, 0), NONE);
        due("plan 2", x.twice(0, 2, 0, 0, 0, 0, 0), NONE);
    }

    /** Promise 40. */
    private static void better() {
        PondStair x = base();
        due("better 0, NONE", x.better(0, 0, NONE), 0);
        due("better NONE, 0", x.better(0, NONE, 0), 1);
        due("better 0, 0", x.better(0, 0, 0), 2);
        due("better NONE, 1: alike", x.better(0, NONE, 1), 2);
        due("better 0, 2", x.better(0, 0, 2), NONE);
        due("better 2, 0", x.better(0, 2, 0), NONE);
        due("better -2, 0", x.better(0, -2, 0), NONE);
        due("better, hill 1", x.better(1, NONE, NONE), NONE);
    }

    /** Promises 43, 44. */
    private static void images() {
        PondStair x = base();
        CHECK.same("image(3)", x.image(3), false);
        CHECK.same("image(-1)", x.image(-1), false);
        CHECK.same("again(0) without", x.again(0), false);
        Tape.put(x, "pond 1 1;");
        x.text(0, NONE);
        Tape.put(x, "out 7;");
        CHECK.same("image(0)", x.image(0), true);
        Tape.put(x, "pond 9 9 9;");
        due("the hill anew", x.text(0, 0), 0);
        Tape.put(x, "out 1;");
        due("the plan anew", x.text(1, 0), 0);
        due("hill 1", Tape.hill(x, "pond 1 1 1;"), 1);
        CHECK.same("image(2)", x.image(2), true);
        CHECK.same("again(0)", x.again(0), true);
        due("the hills", x.count(0), 1);
        due("the hill", x.pond(0, NONE, 0, 0), 5);
        due("the plan", x.work(0, 0, 0), 1);
        due("the FAULT", x.fault(0), 1);
        due("its place", x.fault(1), 8);
        due("the tape", x.end(6), 6);
        due("what is on it", x.text(1, NONE), 2);
        due("its WORK", x.work(2, 0, 1), 7);
        CHECK.same("again(2)", x.again(2), true);
        due("the hills of 2", x.count(0), 2);
        due("the plans of 2", x.count(1), 2);
        due("the hill of 2", x.pond(0, NONE, 0, 0), 9);
        CHECK.same("again(0) again", x.again(0), true);
        due("the plans of 0", x.count(1), 2);
        CHECK.same("again(1)", x.again(1), false);
        CHECK.same("again(3)", x.again(3), false);
        CHECK.same("image(0) anew", x.image(0), true);
        x.end(0);
        CHECK.same("again(0) anew", x.again(0), true);
        due("the tape of it", x.end(6), 6);
    }
}
