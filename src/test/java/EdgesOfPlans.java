/** Terms 2, of WORKS, and promises 6 to 9: what is told of HILLS, PONDS and PLANS. */
final class EdgesOfPlans extends Edges {
    /** CHANCE 4, LEVEL 5, BEARS 20, RICE 7; MEND 3, WIDE 5, ROUND 11. */
    private static final String HILL = "pond 9 5 1;pond 9 5 1;pond 9 5 1;goes 0 4;bears 0 20;rice 0 7;mend 3;wide 5;round 11;"
        + "down 0 1;harm 0 8;owner 0 2;way 0 6;gate 0 9;sign 0 2 3;aside 0 2 4;";

    EdgesOfPlans(Sentences sentences) {
        super(sentences);
    }

    @Override
    void test() {
        worksDone();
        out();
        noSuchPond();
        outAlready();
        lessThanSoMuch();
        roundTo();
        stop();
        days();
        lost();
        withoutWorks();
        hill();
        pond();
        work();
        plan();
    }

    /** What a PLAN's STOP is on the HILL above. */
    private void stops(String plan, int stop) {
        due("STOP of " + plan, with(HILL, plan).plan(0, 0, 0), stop);
    }

    private void worksDone() {
        sentence("Terms 2", "A PLAN on a HILL: WORKS, one by one: mend: CHANCE of a POND is so much less; low: its LEVEL; widen:"
            + " BEARS is so much more; round: its DOWN is another POND;");
        String[] plans = {"mend 0 1;", "mend 0 4;", "low 0 1;", "low 0 5;", "widen 0 1;", "widen 0 4;", "round 0 2;", "round 0 1;"};
        int[] what = {4, 4, 1, 1, 3, 3, 8, 8};
        int[] want = {3, 0, 4, 0, 21, 24, 2, 1};
        for (int k = 0; k < plans.length; k++) {
            PondStair x = with(HILL, plans[k]);
            for (int w = 0; w < 16; w++) {
                due(plans[k] + " what " + w, x.pond(0, 0, 0, w), w == what[k] ? want[k] : x.pond(0, NONE, 0, w));
                due(plans[k] + " another POND's " + w, x.pond(0, 0, 1, w), x.pond(0, NONE, 1, w));
            }
        }
        PondStair x = with(HILL, "mend 0 1;mend 0 3;low 0 2;low 0 3;widen 0 3;widen 0 1;round 0 2;round 0 1;");
        due("one by one: CHANCE", x.pond(0, 0, 0, 4), 0);
        due("one by one: LEVEL", x.pond(0, 0, 0, 1), 0);
        due("one by one: BEARS", x.pond(0, 0, 0, 3), 24);
        due("one by one: DOWN", x.pond(0, 0, 0, 8), 1);
        due("the HILL itself stays", x.pond(0, NONE, 0, 4), 4);
    }

    private void out() {
        sentence("Terms 2", "out: it is OUT: LEVEL 0, HOLDS 0, CHANCE 0.");
        PondStair x = with(HILL, "out 0;");
        int[] want = {0, 0, 1, 20, 0, 8, 2, 7, 1, 2, 4, 6, 9, 2, 3, 1};
        for (int what = 0; what < 16; what++) {
            due("what " + what, x.pond(0, 0, 0, what), want[what]);
        }
        due("another POND is not", x.pond(0, 0, 1, 15), 0);
        due("without the PLAN it is not", x.pond(0, NONE, 0, 15), 0);
    }

    private void noSuchPond() {
        sentence("Terms 2", "A WORK can't be, if there is no such POND,");
        for (String work : new String[] {"mend # 1;", "low # 1;", "widen # 1;", "out #;"}) {
            PondStair two = with("pond 9 5 1;pond 9 5 1;goes 1 5;", work.replace('#', '1'));
            due("the last POND, " + work, two.plan(0, 0, 0), 1);
            for (int pond = 2; pond < 9; pond++) {
                PondStair x = with("pond 9 5 1;pond 9 5 1;goes 1 5;", work.replace("#", "" + pond));
                due("POND " + pond + ", " + work, x.plan(0, 0, 0), 0);
            }
            due("no PONDS at all, " + work, with("", work.replace('#', '0')).plan(0, 0, 0), 0);
        }
        due("round of no POND", with("pond 9 5 1;", "round 1 2;").plan(0, 0, 0), 0);
        due("the ninth", with("pond 9 5 1;".repeat(9), "low 8 1;out 8;").plan(0, 0, 0), 2);
    }

    private void outAlready() {
        sentence("Terms 2", "it is OUT already,");
        for (String work : new String[] {"mend 0 1;", "low 0 1;", "widen 0 1;", "round 0 2;", "out 0;"}) {
            stops(work, 1);
            stops("out 0;" + work, 1);
            stops("out 1;" + work, 2);
        }
        // Another one may be led to one that is OUT: it is there.
        stops("out 2;round 0 2;", 2);
    }

    private void lessThanSoMuch() {
        sentence("Terms 2", "CHANCE or LEVEL is less than so much,");
        stops("mend 0 4;", 1);
        stops("mend 0 5;", 0);
        stops("mend 0 3;mend 0 1;", 2);
        stops("mend 0 3;mend 0 2;", 1);
        stops("mend 1 1;", 0);
        stops("low 0 5;", 1);
        stops("low 0 6;", 0);
        stops("low 0 4;low 0 1;", 2);
        stops("low 0 4;low 0 2;", 1);
        sentence("Terms 2", "BEARS would be above 24,");
        stops("widen 0 4;", 1);
        stops("widen 0 5;", 0);
        stops("widen 0 3;widen 0 1;", 2);
        stops("widen 0 3;widen 0 2;", 1);
        stops("widen 1 24;", 1);
        stops("widen 1 24;widen 1 1;", 1);
    }

    private void roundTo() {
        sentence("Terms 2", "round's POND is not there or not greater.");
        stops("round 0 1;", 1);
        stops("round 0 2;", 1);
        stops("round 1 2;", 1);
        stops("round 1 3;", 0);
        stops("round 0 8;", 0);
        stops("round 1 1;", 0);
        stops("round 1 0;", 0);
        stops("round 2 2;", 0);
        due("the ninth is there", with("pond 1 1 1;".repeat(9), "round 7 8;").plan(0, 0, 0), 1);
        due("the ninth of eight is not", with("pond 1 1 1;".repeat(8), "round 7 8;").plan(0, 0, 0), 0);
    }

    private void stop() {
        sentence("Terms 2", "STOP: the first that can't be (those behind it are not done either), else how many there are.");
        stops("", 0);
        stops("low 0 1;", 1);
        stops("low 0 1;".repeat(5), 5);
        stops("low 0 1;".repeat(6), 5);
        due("twelve", with("pond 24 24 0;", "low 0 2;".repeat(12)).plan(0, 0, 0), 12);
        due("the twelfth can't be", with("pond 24 23 0;", "low 0 2;".repeat(12)).plan(0, 0, 0), 11);
        PondStair x = with(HILL, "low 0 1;low 0 9;mend 0 1;widen 0 1;round 0 2;out 0;low 0 9;");
        due("the first, not a later one", x.plan(0, 0, 0), 1);
        int[] want = {9, 4, 1, 20, 4, 8, 2, 7, 1, 2, 4, 6, 9, 2, 3, 0};
        for (int what = 0; what < 16; what++) {
            due("behind it nothing is done: " + what, x.pond(0, 0, 0, what), want[what]);
        }
        due("nor counted: DAYS", x.plan(0, 0, 1), 0);
        due("nor counted: LOST", x.plan(0, 0, 2), 7);
        sentence("Terms 3", "(Of a HILL with a PLAN, up to its STOP.)");
        due("a MEAN up to the STOP", x.mean(0, 0, NONE), 320000);
        due("THINK up to the STOP", x.think(0, 0, 0, true), 13);
    }

    private void days() {
        sentence("Terms 2", "DAYS: mend: MEND for each of 10; widen: WIDE for each step; round: ROUND.");
        String[] plans = {"", "mend 0 1;", "mend 0 4;", "widen 0 1;", "widen 0 4;", "round 0 2;", "round 0 1;", "low 0 1;", "out 0;",
            "mend 0 4;widen 0 4;round 0 1;low 0 5;out 0;", "mend 0 5;", "mend 0 4;mend 0 1;",
            "mend 0 1;mend 0 3;", "widen 0 1;mend 0 1;", "widen 0 1;widen 0 2;", "mend 0 1;widen 0 1;", "round 0 1;round 0 2;",
            "round 0 1;mend 0 1;widen 0 1;round 0 2;"};
        int[] want = {0, 3, 12, 5, 20, 11, 11, 0, 0, 43, 0, 12, 12, 8, 15, 8, 22, 30};
        for (int k = 0; k < plans.length; k++) {
            due("DAYS of " + plans[k], with(HILL, plans[k]).plan(0, 0, 1), want[k]);
        }
        String free = "pond 9 5 1;pond 1 1 1;goes 0 4;mend 0;wide 0;round 0;";
        due("for nothing", with(free, "mend 0 4;widen 0 24;round 0 1;").plan(0, 0, 1), 0);
        String dear = "pond 9 5 1;pond 1 1 1;goes 0 10;mend 99;wide 99;round 99;";
        due("for the most", with(dear, "mend 0 10;widen 0 24;round 0 1;").plan(0, 0, 1), 990 + 2376 + 99);
        due("1 at first", with("pond 9 5 1;pond 1 1 1;goes 0 4;", "mend 0 4;widen 0 24;round 0 1;").plan(0, 0, 1), 29);
    }

    private void lost() {
        sentence("Terms 2", "LOST: low: RICE for each step; out: RICE for each step of its LEVEL then.");
        String[] plans = {"", "low 0 1;", "low 0 5;", "out 0;", "low 0 2;out 0;", "low 0 5;out 0;", "out 0;low 0 1;", "low 0 6;",
            "low 1 5;out 2;", "mend 0 1;widen 0 1;round 0 2;", "low 0 1;low 0 1;low 0 2;"};
        int[] want = {0, 7, 35, 35, 35, 35, 35, 0, 0, 0, 28};
        for (int k = 0; k < plans.length; k++) {
            due("LOST by " + plans[k], with(HILL, plans[k]).plan(0, 0, 2), want[k]);
        }
        due("the most", with("pond 24 24 0;rice 0 99;", "out 0;").plan(0, 0, 2), 2376);
        String two = "pond 9 5 0;pond 9 4 0;rice 0 7;rice 1 3;";
        due("of two, low behind out", with(two, "out 1;low 0 1;").plan(0, 0, 2), 19);
        due("of two, out behind low", with(two, "low 0 1;out 1;").plan(0, 0, 2), 19);
        due("of two, both out", with(two, "out 0;out 1;").plan(0, 0, 2), 47);
    }

    private void withoutWorks() {
        sentence("Terms 2", "(Plan NONE: without WORKS.)");
        PondStair x = with(HILL, "out 0;");
        for (int what = 0; what < 3; what++) {
            due("plan(0, NONE, " + what + ")", x.plan(0, NONE, what), 0);
        }
        due("the POND as it is told", x.pond(0, NONE, 0, 1), 5);
        due("a STORM without WORKS", x.storm(0, NONE, 0, 1, 0), 1);
        due("a PLAN's STORM", x.storm(0, 0, 0, 1, 0), 0);
        PondStair none = with(HILL);
        due("if there is no PLAN, too", none.pond(0, NONE, 0, 1), 5);
        due("an empty PLAN is as none", with(HILL, "").mean(0, 0, NONE), none.mean(0, NONE, NONE));
    }

    private void hill() {
        sentence("Promise 6", "Of a HILL, what 0: PONDS, 1: RAINS (1 without any), 2, 3, 4: MEND, WIDE, ROUND, 10 + k, 20 + k:"
            + " STEPS, CHANCE of RAIN k.");
        PondStair x = with("pond 1 1 1;".repeat(9) + "rain 6 10;rain 7 20;rain 8 30;rain 9 40;mend 2;wide 3;round 4;");
        Tape.hill(x, "");
        int[] what = {0, 1, 2, 3, 4, 10, 11, 12, 13, 20, 21, 22, 23};
        int[] full = {9, 4, 2, 3, 4, 6, 7, 8, 9, 10, 20, 30, 40};
        int[] empty = {0, 1, 1, 1, 1, 0, NONE, NONE, NONE, 100, NONE, NONE, NONE};
        for (int k = 0; k < what.length; k++) {
            due("full, " + what[k], x.hill(0, what[k]), full[k]);
            due("empty, " + what[k], x.hill(1, what[k]), empty[k]);
        }
    }

    private void pond() {
        sentence("Promise 7", "Of a POND, with a PLAN, what 0: HOLDS, 1: LEVEL, 2: TAKE, 3: BEARS, 4: CHANCE, 5: HARM, 6: OWNER, 7:"
            + " RICE, 8: DOWN (NONE), 9: ASIDE (NONE), 10: n of 10 (0), 11: WAY, 12: GATE (NONE), 13, 14: SIGN, 15: 1 if it is OUT.");
        PondStair x = with(HILL, "low 0 1;mend 0 1;", "out 1;");
        int[] told = {9, 5, 1, 20, 4, 8, 2, 7, 1, 2, 4, 6, 9, 2, 3, 0};
        int[] bare = {9, 5, 1, 0, 0, 0, 0, 0, NONE, NONE, 0, 0, NONE, 0, 0, 0};
        for (int what = 0; what < 16; what++) {
            due("told, " + what, x.pond(0, NONE, 0, what), told[what]);
            due("bare, " + what, x.pond(0, NONE, 2, what), bare[what]);
        }
        due("LEVEL with a PLAN", x.pond(0, 0, 0, 1), 4);
        due("CHANCE with a PLAN", x.pond(0, 0, 0, 4), 3);
        due("OUT with a PLAN", x.pond(0, 1, 1, 15), 1);
        due("not OUT with another one", x.pond(0, 0, 1, 15), 0);
        due("not the other POND", x.pond(0, 1, 0, 15), 0);
    }

    private void work() {
        sentence("Promise 8", "Of a WORK, what 0: 0 mend, 1 low, 2 widen, 3 round, 4 out, 1: its POND, 2: by how much, to which (NONE).");
        PondStair x = with("", "mend 1 10;low 2 24;widen 3 23;round 8 0;out 5;");
        int[][] want = {{0, 1, 10}, {1, 2, 24}, {2, 3, 23}, {3, 8, 0}, {4, 5, NONE}};
        for (int work = 0; work < want.length; work++) {
            for (int what = 0; what < 3; what++) {
                due("WORK " + work + ", what " + what, x.work(0, work, what), want[work][what]);
            }
        }
    }

    private void plan() {
        sentence("Promise 9", "Of a PLAN on a HILL, what 0: STOP, 1: DAYS, 2: LOST.");
        PondStair x = with(HILL, "low 0 2;mend 0 3;widen 0 1;round 0 2;out 0;out 0;");
        due("STOP", x.plan(0, 0, 0), 5);
        due("DAYS", x.plan(0, 0, 1), 25);
        due("LOST", x.plan(0, 0, 2), 35);
        Tape.hill(x, "pond 1 1 1;");
        due("STOP on another HILL", x.plan(1, 0, 0), 0);
    }
}
