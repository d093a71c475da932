/** Terms 3 and what of terms 4 is a choice: promises 15 to 27, 31, 38, 40, 41. */
final class EdgesOfChoices extends Edges {
    /** Three PONDS apart: 3 days for 30 * 10 of MEAN by 100 parts, 4 days for 40 * 20, 2 days for 20 * 5. */
    private static final String APART = "pond 1 0 0;pond 1 0 0;pond 1 0 0;goes 0 3;goes 1 4;goes 2 2;harm 0 10;harm 1 20;harm 2 5;";
    private static final String SIX = "pond 1 0 0;".repeat(6) + "goes 0 1;goes 5 1;harm 0 1;harm 5 1;";

    EdgesOfChoices(Sentences sentences) {
        super(sentences);
    }

    @Override
    void test() {
        best();
        bestOfSeveral();
        steps();
        stepsByFractions();
        stepsThatLessen();
        mended();
        one();
        low();
        helps();
        alone();
        hear();
        may();
        order();
        first();
        think();
        now();
        draw();
        drawnRainsAndBanks();
        years();
        weighs();
        around();
        aroundOfSeveral();
        better();
        spend();
    }

    // ---- the best to mend

    private void best() {
        sentence("Terms 3", "BEST of some PONDS, at most 5, for so many days: of their sets whose CHANCES, all mended to 0, cost so many"
            + " days at most, that with the least MEAN;");
        PondStair x = with(APART);
        int[] want = {0, 0, 4, 1, 2, 2, 6, 3, 3, 7, 7};
        for (int days = 0; days < want.length; days++) {
            due(days + " days", x.best(0, NONE, 7, days), want[days]);
        }
        due("of some alone", x.best(0, NONE, 5, 9), 5);
        due("of one, a day too few", x.best(0, NONE, 2, 3), 0);
        due("of one, days enough", x.best(0, NONE, 2, 4), 2);
        PondStair dear = with("pond 1 0 0;".repeat(5) + "goes 0 10;goes 1 10;goes 2 10;goes 3 10;goes 4 10;harm 0 1;harm 1 1;harm 2 1;"
            + "harm 3 1;harm 4 1;mend 99;");
        due("5 for 4950 days", dear.best(0, NONE, 31, 4950), 31);
        due("5 for 4949 days", dear.best(0, NONE, 31, 4949), 15);
        PondStair six = with(SIX);
        due("of 5", six.best(0, NONE, 62, 9), 32);
        due("of 6", six.best(0, NONE, 63, 9), NONE);
        sentence("Promise 15", "BEST of PONDS (bits) for so many days, 0 .. 9999: the set (bits).");
        due("0 days", x.best(0, NONE, 7, 0), 0);
        due("9999 days", x.best(0, NONE, 7, 9999), 7);
        due("no PONDS", x.best(0, NONE, 0, 9999), 0);
        sentence("Promise 15", "NONE: more than 5, or there is none such (of any).");
        due("-1 days", x.best(0, NONE, 7, -1), NONE);
        due("10000 days", x.best(0, NONE, 7, 10000), NONE);
        PondStair nine = with("pond 1 0 0;".repeat(9));
        for (int set = 0; set < 512; set++) {
            if (Integer.bitCount(set) >= 5 && Integer.bitCount(set) <= 6) {
                due("set " + set, nine.best(0, NONE, set, 0), Integer.bitCount(set) == 5 ? 0 : NONE);
            }
        }
    }

    private void bestOfSeveral() {
        sentence("Terms 3", "of several that of the fewest days, then the least number.");
        due("as good for fewer days", with("pond 1 0 0;pond 1 0 0;goes 0 4;goes 1 2;harm 0 1;harm 1 2;").best(0, NONE, 3, 4), 2);
        due("as good for as many days", with("pond 1 0 0;pond 1 0 0;goes 0 4;goes 1 4;harm 0 1;harm 1 1;").best(0, NONE, 3, 4), 1);
        due("a POND that does no harm is not mended", with("pond 1 0 0;pond 1 0 0;goes 0 4;goes 1 4;harm 1 1;").best(0, NONE, 3, 99), 2);
        due("nor one without CHANCE", with("pond 1 0 0;pond 1 0 0;goes 1 4;harm 0 1;harm 1 1;").best(0, NONE, 3, 99), 2);
        due("nor one for 0 days", with("pond 1 0 0;pond 1 0 0;goes 0 4;goes 1 4;harm 1 1;mend 0;").best(0, NONE, 3, 0), 2);
        // What POND 0 does is heard at 1: mended it would make MEAN greater.
        due("nor one that saves another", with("pond 9 0 0;pond 9 9 1;down 0 1;gate 1 0;goes 0 5;harm 1 9;rain 1 100;").best(0, NONE, 1, 99), 0);
    }

    private void steps() {
        sentence("Terms 3", "STEP by STEP: so long as one of these is above 0 and its days are left: that POND is mended to 0, by which MEAN"
            + " falls most by its days");
        PondStair x = with(APART);
        int[] want = {0, 0, 4, 1, 2, 2, 6, 3, 3, 7, 7};
        for (int days = 0; days < want.length; days++) {
            due(days + " days", x.steps(0, NONE, 7, days), want[days]);
        }
        due("of some alone", x.steps(0, NONE, 5, 9), 5);
        due("of some alone, days for one", x.steps(0, NONE, 5, 4), 1);
        due("none above 0", with("pond 1 0 0;harm 0 9;").steps(0, NONE, 1, 9999), 0);
        // The first step takes the days that a better set would need: 6 by 2 days, then 12 by 3 and by 3.
        PondStair greedy = with("pond 1 0 0;pond 1 0 0;pond 1 0 0;goes 0 2;goes 1 3;goes 2 3;harm 0 5;harm 1 4;harm 2 4;");
        due("step by step", greedy.steps(0, NONE, 7, 6), 3);
        due("all at once", greedy.best(0, NONE, 7, 6), 6);
        sentence("Promise 16", "STEP by STEP, likewise.");
        due("0 days", x.steps(0, NONE, 7, 0), 0);
        due("9999 days", x.steps(0, NONE, 7, 9999), 7);
        due("no PONDS", x.steps(0, NONE, 0, 9999), 0);
        PondStair five = with("pond 1 0 0;".repeat(5) + "goes 0 1;goes 1 1;goes 2 1;goes 3 1;goes 4 1;harm 0 1;harm 1 1;harm 2 1;harm 3 1;harm 4 1;");
        for (int days = 0; days < 7; days++) {
            due("five alike, " + days + " days", five.steps(0, NONE, 31, days), (1 << Math.min(days, 5)) - 1);
        }
        sentence("Promise 16", "NONE: as best().");
        due("-1 days", x.steps(0, NONE, 7, -1), NONE);
        due("10000 days", x.steps(0, NONE, 7, 10000), NONE);
        due("of 5", with(SIX).steps(0, NONE, 62, 9), 32);
        due("of 6", with(SIX).steps(0, NONE, 63, 9), NONE);
    }

    private void stepsByFractions() {
        sentence("Terms 3", "(as fractions; those of 0 days ahead of all others, most first; of several the least;");
        // By a day each 2 * 10: alike, though one falls by more.
        due("as fractions alike: the least", with("pond 1 0 0;pond 1 0 0;goes 0 2;goes 1 4;harm 0 2;harm 1 2;").steps(0, NONE, 3, 5), 1);
        due("as fractions alike, the other way", with("pond 1 0 0;pond 1 0 0;goes 0 4;goes 1 2;harm 0 2;harm 1 2;").steps(0, NONE, 3, 5), 1);
        // 3 by a day against 2 by a day: cut to whole parts of a whole they would be alike.
        due("the greater fraction", with("pond 1 0 0;pond 1 0 0;goes 0 4;goes 1 3;harm 0 2;harm 1 3;").steps(0, NONE, 3, 4), 2);
        due("a little greater", with("pond 1 0 0;pond 1 0 0;goes 0 3;goes 1 7;harm 0 998;harm 1 999;").steps(0, NONE, 3, 7), 2);
        // Without days most first, though all that lessens is mended in the end.
        due("for 0 days all", with(APART + "mend 0;").steps(0, NONE, 7, 0), 7);
        due("for 0 days one that is left", with(APART + "mend 0;").steps(0, NONE, 5, 0), 5);
        // 0 alone would bring 2 down; with 1 mended first, it lessens nothing more.
        PondStair order = with("pond 9 9 0;pond 9 9 0;pond 9 9 0;down 0 1;down 1 2;goes 0 5;goes 1 5;harm 2 4;mend 0;");
        due("for 0 days, most first, then the rest", order.steps(0, NONE, 7, 0), 3);
        // 2 goes if both 0 and 1 do: with 1 mended, by which most falls, 0 lessens nothing more.
        PondStair most = with("pond 9 5 0;pond 9 5 0;pond 9 0 0;down 0 2;down 1 2;goes 0 5;goes 1 5;harm 1 1;harm 2 4;mend 0;");
        due("for 0 days, most first", most.steps(0, NONE, 7, 0), 2);
        PondStair least = with("pond 9 5 0;pond 9 5 0;pond 9 0 0;down 0 2;down 1 2;goes 0 5;goes 1 5;harm 2 4;mend 0;");
        due("for 0 days, of several the least", least.steps(0, NONE, 7, 0), 1);
    }

    private void stepsThatLessen() {
        sentence("Terms 3", "none that lessens nothing).");
        due("without HARM", with("pond 1 0 0;pond 1 0 0;goes 0 1;goes 1 9;harm 1 1;").steps(0, NONE, 3, 99), 2);
        due("without HARM, for 0 days", with("pond 1 0 0;pond 1 0 0;goes 0 1;goes 1 9;harm 1 1;mend 0;").steps(0, NONE, 3, 0), 2);
        due("what the RAIN does all the same", with("pond 0 0 1;goes 0 5;harm 0 9;rain 1 100;").steps(0, NONE, 1, 99), 0);
        due("what would make it greater", with("pond 9 0 0;pond 9 9 1;down 0 1;gate 1 0;goes 0 5;harm 1 9;rain 1 100;").steps(0, NONE, 1, 99), 0);
        due("no more than is there", with("pond 0 0 1;goes 0 5;harm 0 9;rain 1 99;rain 0 1;").steps(0, NONE, 1, 99), 1);
        due("by the least that can be", with("pond 0 0 1;goes 0 1;harm 0 1;rain 1 99;rain 0 1;").steps(0, NONE, 1, 99), 1);
    }

    private void mended() {
        sentence("Promise 17", "MEAN with all CHANCES of some PONDS (bits) at 0.");
        PondStair x = with(APART, "out 1;");
        long[] want = {12 * 10000, 9 * 10000, 4 * 10000, 10000, 11 * 10000, 8 * 10000, 3 * 10000, 0};
        for (int set = 0; set < 8; set++) {
            due("set " + set, x.mended(0, NONE, set), want[set] * 10);
        }
        due("with one OUT", x.mended(0, 0, 0), 400000);
        due("what the RAIN does stays", with("pond 0 0 1;goes 0 5;harm 0 9;rain 1 100;").mended(0, NONE, 1), 9000);
        due("six and more", with("pond 1 0 0;".repeat(9) + "goes 8 10;harm 8 1;").mended(0, NONE, 511), 0);
        due("none of them", with("").mended(0, NONE, 0), 0);
    }

    // ---- one POND

    private void one() {
        sentence("Terms 3", "ONE: the POND that, not to GO whatever comes, and all that comes staying in it, makes MEAN least; of several the"
            + " least.");
        PondStair x = with("pond 9 9 1;pond 5 5 1;pond 5 5 1;down 0 1;down 1 2;goes 0 10;harm 0 3;harm 1 4;harm 2 5;rain 9 100;");
        due("all go by the RAIN: the dearest", x.one(0, NONE, false), 2);
        due("the others' MEAN", x.one(0, NONE, true), 7 * 100000);
        PondStair mid = with("pond 9 9 0;pond 5 5 0;pond 5 5 0;down 0 1;down 1 2;goes 0 10;harm 1 4;harm 2 5;harm 0 1;");
        due("the top one: none below is harmed", mid.one(0, NONE, false), 0);
        due("its MEAN", mid.one(0, NONE, true), 0);
        PondStair down = with("pond 9 9 0;pond 9 9 0;pond 5 5 0;pond 5 5 0;down 0 2;down 1 2;down 2 3;goes 0 10;goes 1 10;harm 2 4;harm 3 5;");
        due("one below holds all that comes", down.one(0, NONE, false), 2);
        due("none behind it is harmed", down.one(0, NONE, true), 0);
        due("not to GO by its own bank", with("pond 1 0 0;pond 1 0 0;goes 0 9;goes 1 10;harm 0 1;harm 1 1;").one(0, NONE, false), 1);
        due("of several the least", with("pond 1 0 0;pond 1 0 0;goes 0 9;goes 1 9;harm 0 1;harm 1 1;").one(0, NONE, false), 0);
        due("of all alike the least", with("pond 1 0 0;".repeat(9)).one(0, NONE, false), 0);
        due("the last of nine", with("pond 1 0 0;".repeat(9) + "goes 8 1;harm 8 1;").one(0, NONE, false), 8);
        sentence("Promise 18", "ONE, or (much) MEAN with it.");
        due("a POND alone", with("pond 1 0 9;harm 0 9;rain 9 100;").one(0, NONE, false), 0);
        due("a POND alone, much", with("pond 1 0 9;harm 0 9;rain 9 100;").one(0, NONE, true), 0);
        sentence("Promise 18", "NONE: there are no PONDS, or there is none such (of either).");
        due("no PONDS", with("").one(0, NONE, false), NONE);
        due("no PONDS, much", with("").one(0, NONE, true), NONE);
    }

    private void low() {
        sentence("Terms 3", "LOW of a POND: by how much to keep it lower, 0 .. LEVEL, so that MEAN and PARTS times what is lost of RICE by this"
            + " are least together; of several the least.");
        // 3 too much by the RAIN: kept 3 lower it never goes; 10 of HARM against 3 times RICE.
        String hill = "pond 9 9 1;harm 0 10;rain 3 100;rice 0 ";
        due("9 lost against 10", with(hill + "3;").low(0, NONE, 0), 3);
        due("12 lost against 10", with(hill + "4;").low(0, NONE, 0), 0);
        due("10 lost against 10", with("pond 9 9 1;harm 0 10;rain 1 100;rice 0 10;").low(0, NONE, 0), 0);
        due("9 lost against 10, in one step", with("pond 9 9 1;harm 0 10;rain 1 100;rice 0 9;").low(0, NONE, 0), 1);
        due("nothing lost: the least that is enough", with(hill + "0;").low(0, NONE, 0), 3);
        due("by all its LEVEL", with("pond 9 3 1;harm 0 10;rain 9 100;rice 0 3;").low(0, NONE, 0), 3);
        due("all its LEVEL is not enough", with("pond 9 3 2;harm 0 10;rain 9 100;rice 0 3;").low(0, NONE, 0), 0);
        due("an empty one", with("pond 9 0 2;harm 0 10;rain 9 100;").low(0, NONE, 0), 0);
        due("by CHANCE: half of 10 against 4", with("pond 9 9 1;harm 0 10;rain 1 50;rain 0 50;rice 0 4;").low(0, NONE, 0), 1);
        due("by CHANCE: half of 10 against 5", with("pond 9 9 1;harm 0 10;rain 1 50;rain 0 50;rice 0 5;").low(0, NONE, 0), 0);
        due("24", with("pond 24 24 8;harm 0 999;rain 3 100;rice 0 41;").low(0, NONE, 0), 24);
        due("for what is below", with("pond 9 9 0;pond 9 5 0;down 0 1;goes 0 10;harm 1 50;rice 0 9;").low(0, NONE, 0), 5);
        sentence("Promise 19", "LOW.");
        due("by a PLAN's LEVEL", with(hill + "3;", "low 0 1;").low(0, 0, 0), 2);
        due("of one OUT", with(hill + "3;", "out 0;").low(0, 0, 0), 0);
    }

    // ---- OWNERS

    private void helps() {
        sentence("Terms 3", "HELPS of an OWNER for another one: by how much MEAN of the other's PONDS falls, if all CHANCES of his were 0.");
        PondStair x = with("pond 9 9 0;pond 9 9 0;pond 9 0 0;down 0 1;goes 0 4;goes 1 5;goes 2 3;harm 0 1;harm 1 10;harm 2 7;owner 1 3;owner 2 3;");
        due("0 for 3", x.helps(0, NONE, 0, 3), 200000);
        due("0 for 0", x.helps(0, NONE, 0, 0), 40000);
        due("3 for 3: both of his", x.helps(0, NONE, 3, 3), 300000 + 210000);
        due("3 for 0", x.helps(0, NONE, 3, 0), 0);
        due("1, who has none, for 3", x.helps(0, NONE, 1, 3), 0);
        due("0 for 1, who has none", x.helps(0, NONE, 0, 1), 0);
        sentence("Promise 20", "HELPS.");
        // His bank lets the other's GATE hear: without it MEAN of the other grows by 5 of 10 * 9.
        PondStair y = with("pond 9 0 0;pond 9 9 1;down 0 1;gate 1 0;goes 0 5;harm 1 9;owner 1 1;rain 1 100;");
        due("below 0", y.helps(0, NONE, 0, 1), -45000);
        sentence("Promise 20", "-1: there is none such (of any; OWNERS 0 .. 3, of one: his own).");
        for (int owner = 0; owner < 4; owner++) {
            due(owner + " for himself", x.helps(0, NONE, owner, owner), owner == 0 ? 40000 : owner == 3 ? 510000 : 0);
        }
        for (int wrong : new int[] {-1, 4}) {
            due(wrong + " for 0", x.helps(0, NONE, wrong, 0), -1);
            due("0 for " + wrong, x.helps(0, NONE, 0, wrong), -1);
        }
    }

    private void alone() {
        sentence("Terms 3", "ALONE: MEAN of an OWNER's PONDS, if all CHANCES but those of his were 0.");
        PondStair x = with("pond 9 9 0;pond 9 9 0;pond 9 0 0;down 0 1;goes 0 4;goes 1 5;goes 2 3;harm 0 1;harm 1 10;harm 2 7;owner 1 3;owner 2 3;");
        due("0", x.alone(0, NONE, 0), 40000);
        due("3", x.alone(0, NONE, 3), 500000 + 210000);
        due("1, who has none", x.alone(0, NONE, 1), 0);
        sentence("Promise 21", "ALONE.");
        due("by the RAIN all the same", with("pond 0 0 1;pond 1 0 0;goes 1 5;harm 0 2;rain 1 100;owner 1 1;").alone(0, NONE, 0), 20000);
        due("without PONDS", with("").alone(0, NONE, 3), 0);
        sentence("Promise 21", "NONE: there is none such (of any).");
        due("-1", x.alone(0, NONE, -1), NONE);
        due("4", x.alone(0, NONE, 4), NONE);
    }

    // ---- GATES, MAY, SIGNS

    private void hear() {
        sentence("Terms 3", "HEAR of a POND: by how much MEAN falls, if it had a GATE of m, 0 .. 99.");
        String hill = "pond 9 5 0;pond 9 9 0;down 0 1;goes 0 5;harm 1 2;way 0 ";
        int[] ways = {0, 1, 50, 98, 99};
        for (int way : ways) {
            PondStair x = with(hill + way + ";");
            for (int m : new int[] {0, way - 1, way, way + 1, 99}) {
                if (m >= 0 && m <= 99) {
                    due("WAY " + way + ", m " + m, x.hear(0, NONE, 1, m), way >= m ? 10000 : 0);
                }
            }
        }
        PondStair has = with(hill + "50;gate 1 50;");
        due("as it is", has.hear(0, NONE, 1, 50), 0);
        due("a lesser one is as good", has.hear(0, NONE, 1, 0), 0);
        due("it is for this call alone", has.pond(0, NONE, 1, 12), 50);
        sentence("Promise 22", "HEAR (below 0, if MEAN grows).");
        due("a greater one", has.hear(0, NONE, 1, 51), -10000);
        PondStair drop = with("pond 9 5 0;pond 9 9 0;pond 9 1 0;down 0 1;down 1 2;goes 0 10;bears 1 9;harm 2 4;");
        due("LEVEL let out runs over the next", drop.hear(0, NONE, 1, 0), -400000);
        sentence("Promise 22", "The least long: there is none such (of any), or another m.");
        for (int m : new int[] {-2, -1, 100, 101, Integer.MIN_VALUE, Integer.MAX_VALUE}) {
            due("m " + m, has.hear(0, NONE, 1, m), Long.MIN_VALUE);
        }
        due("no such POND", has.hear(0, NONE, 2, 0), Long.MIN_VALUE);
        due("no POND -1", has.hear(0, NONE, -1, 0), Long.MIN_VALUE);
        due("no such HILL", has.hear(1, NONE, 0, 0), Long.MIN_VALUE);
        due("no such PLAN", has.hear(0, 0, 0, 0), Long.MIN_VALUE);
    }

    /** POND 0 goes for sure: 4 of it come to 1, 6 to 2, if they are filled; what is full goes then. */
    private static final String MAY = "pond 10 0 9;pond 8 0 9;pond 9 0 9;pond 9 9 9;down 0 1;aside 0 2 6;goes 0 10;harm 1 3;harm 2 5;rain 9 50;"
        + "rain 1 50;";

    private void may() {
        sentence("Terms 3", "MAY: some PONDS are filled, one behind the other, to HOLDS: behind each MEAN with 0 STEPS of all RAINS, all together:");
        PondStair x = with(MAY);
        long part = 1000000;
        due("0 alone: neither goes", x.may(0, NONE, 1, false), 0);
        due("1 alone: nothing comes", x.may(0, NONE, 2, false), 0);
        due("3, full already", x.may(0, NONE, 8, false), 0);
        due("0 and 1: behind the second 1 goes", x.may(0, NONE, 3, false), 3 * part);
        due("0 and 2: behind the second 2 goes", x.may(0, NONE, 5, false), 5 * part);
        due("0, 1 and 2: 0 last", x.may(0, NONE, 7, false), 8 * part);
        due("1 and 2: none goes", x.may(0, NONE, 6, false), 0);
        due("what stands in full PONDS from the first", with("pond 9 9 0;goes 0 1;harm 0 5;").may(0, NONE, 1, false), 500);
        due("of one OUT", with("pond 9 9 0;goes 0 1;harm 0 5;", "out 0;").may(0, 0, 1, false), 0);
        sentence("Promise 23", "MAY of ORDER, or (first) FIRST, of some PONDS (bits).");
        due("ORDER", x.may(0, NONE, 7, false), 8 * part);
        due("FIRST", x.may(0, NONE, 7, true), 8 * part);
        due("it is for this call alone", x.pond(0, NONE, 0, 1), 0);
        sentence("Promise 23", "NONE: they are not 1 to 4 that there are, or there is none such (of any).");
        PondStair nine = with("pond 1 0 0;".repeat(9));
        for (int set : new int[] {0, 1, 256, 3, 480, 15, 31, 496, 511, 512, 513, -1, -256, Integer.MIN_VALUE}) {
            boolean can = set > 0 && set < 512 && Integer.bitCount(set) <= 4;
            due("ORDER of " + set, nine.may(0, NONE, set, false), can ? 0 : NONE);
            due("FIRST of " + set, nine.may(0, NONE, set, true), can ? 0 : NONE);
        }
        due("no PONDS at all", with("").may(0, NONE, 0, false), NONE);
    }

    private void order() {
        sentence("Terms 3", "ORDER: that of 1 to 4 PONDS with the least; of several that which is less at the first that differs.");
        PondStair x = with(MAY);
        orderIs(x, 1, 0);
        orderIs(x, 7, 1, 2, 0);
        orderIs(x, 3, 0, 1);
        orderIs(x, 15, 1, 2, 3, 0);
        PondStair nine = with("pond 1 0 0;".repeat(9));
        orderIs(nine, 480, 5, 6, 7, 8);
        orderIs(nine, 256, 8);
        orderIs(nine, 273, 0, 4, 8);
        PondStair last = with("pond 9 0 0;pond 9 0 0;pond 9 0 0;goes 0 10;goes 1 10;goes 2 10;pond 9 9 0;harm 3 1;down 0 3;down 1 3;down 2 3;");
        orderIs(last, 7, 0, 1, 2);
        // 0 full brings 1 down, for 5; 2 full brings 3 down, for 9: these last, and the dearest at the very end.
        PondStair four = with("pond 9 0 0;pond 9 9 0;pond 9 0 0;pond 9 9 0;down 0 1;down 2 3;goes 0 10;goes 2 10;harm 1 5;harm 3 9;");
        orderIs(four, 15, 1, 3, 0, 2);
        orderIs(four, 5, 0, 2);
        PondStair back = with("pond 9 0 0;pond 9 9 0;pond 9 0 0;pond 9 9 0;down 0 1;down 2 3;goes 0 10;goes 2 10;harm 1 9;harm 3 5;");
        orderIs(back, 15, 1, 3, 2, 0);
        orderIs(back, 5, 2, 0);
        sentence("Promise 24", "ORDER: the k-th POND, from 0 on.");
        due("0", x.order(0, NONE, 7, 0), 1);
        due("2", x.order(0, NONE, 7, 2), 0);
        sentence("Promise 24", "NONE: as may(), or there is none such.");
        due("k -1", x.order(0, NONE, 7, -1), NONE);
        due("k 3", x.order(0, NONE, 7, 3), NONE);
        due("k 1 of one", x.order(0, NONE, 1, 1), NONE);
        for (int set : new int[] {0, 31, 512, -1}) {
            due("of " + set, nine.order(0, NONE, set, 0), NONE);
        }
        due("of one more than there are", x.order(0, NONE, 16, 0), NONE);
    }

    private void orderIs(PondStair x, int ponds, int... want) {
        for (int k = -1; k <= want.length; k++) {
            due("of " + ponds + ", k " + k, x.order(0, NONE, ponds, k), k >= 0 && k < want.length ? want[k] : NONE);
        }
    }

    private void first() {
        sentence("Terms 3", "FIRST: by numbers downwards.");
        // The greatest number first: 1 full is run over only behind 0, the last one.
        PondStair top = with("pond 9 0 0;pond 9 0 0;down 0 1;goes 0 10;harm 1 3;");
        due("0 last", top.may(0, NONE, 3, true), 30000);
        PondStair low = with("pond 9 9 0;pond 9 0 0;pond 9 9 0;down 0 2;goes 1 10;down 1 2;harm 2 3;");
        due("1 ahead of 0", low.may(0, NONE, 3, true), 2 * 300000);
        due("ORDER has it last", low.may(0, NONE, 3, false), 300000);
        due("of one both are alike", low.may(0, NONE, 2, true), low.may(0, NONE, 2, false));
        // 3, 2, 1, 0: MEAN grows by 4, by 3, by 2, by 1 behind each.
        PondStair four = with("pond 9 0 0;".repeat(4) + "pond 9 9 0;".repeat(4) + "down 0 4;down 1 5;down 2 6;down 3 7;goes 0 10;goes 1 10;"
            + "goes 2 10;goes 3 10;harm 4 1;harm 5 2;harm 6 3;harm 7 4;");
        due("four downwards", four.may(0, NONE, 15, true), (4 + 7 + 9 + 10) * 10000000000L);
        due("ORDER of them", four.may(0, NONE, 15, false), (1 + 3 + 6 + 10) * 10000000000L);
    }

    private void think() {
        sentence("Terms 3", "THINK of a POND whose SIGN was seen: CHANCE * t by CHANCE * t + (10 - CHANCE) * f.");
        int[][] want = {{5, 8, 2, 4, 5}, {3, 8, 2, 12, 19}, {10, 1, 10, 1, 1}, {1, 10, 10, 1, 10}, {9, 7, 0, 1, 1}, {0, 9, 3, 0, 1},
            {4, 0, 3, 0, 1}, {1, 1, 1, 1, 10}};
        for (int[] w : want) {
            PondStair x = with("pond 1 0 0;goes 0 " + w[0] + ";sign 0 " + w[1] + " " + w[2] + ";");
            due("CHANCE " + w[0] + ", SIGN " + w[1] + " " + w[2], x.think(0, NONE, 0, false), w[3]);
            due("CHANCE " + w[0] + ", SIGN " + w[1] + " " + w[2] + ", under", x.think(0, NONE, 0, true), w[4]);
        }
        sentence("Promise 25", "THINK, above, or (under) below the line, in least terms (0 / 1, if both are 0).");
        int[][] both = {{0, 0, 0}, {5, 0, 0}, {10, 0, 5}, {0, 5, 0}};
        for (int[] b : both) {
            PondStair x = with("pond 1 0 0;goes 0 " + b[0] + ";sign 0 " + b[1] + " " + b[2] + ";");
            due("both 0: " + b[0] + " " + b[1] + " " + b[2], x.think(0, NONE, 0, false), 0);
            due("both 0, under: " + b[0] + " " + b[1] + " " + b[2], x.think(0, NONE, 0, true), 1);
        }
        due("with a PLAN", with("pond 1 0 0;goes 0 5;sign 0 8 2;", "mend 0 2;").think(0, 0, 0, true), 19);
        due("of one OUT", with("pond 1 0 0;goes 0 5;sign 0 8 2;", "out 0;").think(0, 0, 0, false), 0);
    }

    private void now() {
        sentence("Terms 3", "NOW: the POND with the greatest THINK times HARM; of several the least.");
        String two = "pond 1 0 0;pond 1 0 0;goes 0 5;goes 1 5;sign 0 1 1;sign 1 3 1;";
        due("1 of 2 times 4, 3 of 4 times 2", with(two + "harm 0 4;harm 1 2;").now(0, NONE), 0);
        due("1 of 2 times 3, 3 of 4 times 2: alike", with(two + "harm 0 3;harm 1 2;").now(0, NONE), 0);
        due("1 of 2 times 2, 3 of 4 times 2", with(two + "harm 0 2;harm 1 2;").now(0, NONE), 1);
        due("the other way round", with("pond 1 0 0;pond 1 0 0;goes 0 5;goes 1 5;sign 0 3 1;sign 1 1 1;harm 0 2;harm 1 3;").now(0, NONE), 0);
        due("a little greater", with("pond 1 0 0;pond 1 0 0;goes 0 9;goes 1 10;sign 0 10 10;sign 1 1 0;harm 0 999;harm 1 900;").now(0, NONE), 1);
        due("the last of nine", with("pond 1 0 0;".repeat(9) + "goes 8 1;sign 8 1 10;harm 8 1;").now(0, NONE), 8);
        sentence("Promise 26", "NOW.");
        due("the first", with("pond 1 0 0;goes 0 1;sign 0 1 10;harm 0 1;").now(0, NONE), 0);
        sentence("Promise 26", "NONE: none above 0, or there is none such (of either).");
        due("no HARM", with("pond 1 0 0;goes 0 9;sign 0 9 9;").now(0, NONE), NONE);
        due("no CHANCE", with("pond 1 0 0;harm 0 9;sign 0 9 9;").now(0, NONE), NONE);
        due("no t", with("pond 1 0 0;harm 0 9;goes 0 9;sign 0 0 9;").now(0, NONE), NONE);
        due("no PONDS", with("").now(0, NONE), NONE);
        due("OUT", with("pond 1 0 0;goes 0 9;sign 0 9 9;harm 0 9;", "out 0;").now(0, 0), NONE);
    }

    // ---- YEARS

    /** Which number below n is the k-th that a SEED draws, by its own words, on longs. */
    private static int drawn(int seed, int k, int n) {
        long x = seed & 0xffffffffL;
        for (int i = 0; i <= k; i++) {
            x = (x * 1103515245L + 12345L) % 4294967296L;
        }
        return (int) (x / 65536 % n);
    }

    private void draw() {
        sentence("Terms 3", "YEARS by a SEED, x; a number below n is drawn: x becomes x * 1103515245 + 12345 (of 32 bits), it is x shifted right by"
            + " 16 without sign, remainder by n.");
        due("by hand: SEED 1 draws 16838", drawn(1, 0, 100), 38);
        due("by hand: SEED -1 draws 48697 below 100", drawn(-1, 0, 100), 97);
        int[] seeds = {0, 1, 2, -1, -2, 12345, Integer.MIN_VALUE, Integer.MAX_VALUE, 1 << 16, -(1 << 16), 2026};
        for (int seed : seeds) {
            int rain = drawn(seed, 0, 100);
            int bank = drawn(seed, 1, 10);
            // The POND goes by RAIN 1 alone, from the drawn number on.
            String by = "pond 0 0 1;rain 0 " + (rain + 1) + ";rain 1 " + (99 - rain) + ";";
            due("SEED " + seed + ": still RAIN 0", with(by).years(0, NONE, seed, 1, 2), 0);
            by = "pond 0 0 1;rain 0 " + rain + ";rain 1 " + (100 - rain) + ";";
            due("SEED " + seed + ": RAIN 1", with(by).years(0, NONE, seed, 1, 2), 1);
            due("SEED " + seed + ": not below", with("pond 1 0 0;goes 0 " + bank + ";").years(0, NONE, seed, 1, 2), 0);
            due("SEED " + seed + ": below", with("pond 1 0 0;goes 0 " + (bank + 1) + ";").years(0, NONE, seed, 1, 2), 1);
        }
    }

    private void drawnRainsAndBanks() {
        sentence("Terms 3", "Each year one STORM: a number below 100: RAINS lie one behind the other by their CHANCES; of each POND, from 0 on, a"
            + " number below 10: its bank goes, if that is below its CHANCE.");
        int seed = 77;
        String four = "pond 24 0 1;bears 0 ";
        int r = drawn(seed, 0, 100);
        String rains = "rain 1 " + r + ";rain 2 0;rain 3 1;rain 4 " + (99 - r) + ";";
        due("the third RAIN, behind one of 0: 3 are above 2", with("pond 2 0 1;" + rains).years(0, NONE, seed, 1, 2), 1);
        due("the third RAIN: 3 are not above 3", with("pond 3 0 1;" + rains).years(0, NONE, seed, 1, 2), 0);
        due("never", with(four + "24;").years(0, NONE, seed, 99, 1), 0);
        due("a CHANCE of 10 goes each year", with("pond 1 0 0;goes 0 10;").years(0, NONE, seed, 99, 10), 99);
        due("a RAIN of 100 comes each year", with("pond 0 0 1;rain 0 0;rain 1 100;").years(0, NONE, seed, 99, 10), 99);
        due("a RAIN of 0 comes in none", with("pond 0 0 1;rain 0 100;rain 1 0;").years(0, NONE, seed, 99, 10), 0);
        // Of each POND a number is drawn, also of one without CHANCE, and of one OUT.
        for (int pond = 0; pond < 9; pond++) {
            int bank = drawn(seed, 1 + pond, 10);
            String nine = "pond 1 0 0;".repeat(9) + "goes " + pond + " ";
            due("POND " + pond + ": below", with(nine + (bank + 1) + ";").years(0, NONE, seed, 1, 2), 1 << pond);
            due("POND " + pond + ": not below", with(nine + bank + ";").years(0, NONE, seed, 1, 2), 0);
        }
        int second = drawn(seed, 2, 10);
        due("behind one OUT", with("pond 1 0 0;pond 1 0 0;goes 0 10;goes 1 " + (second + 1) + ";", "out 0;").years(0, 0, seed, 1, 2), 2);
        // The second year draws behind the first one's numbers: a RAIN and two PONDS.
        int later = drawn(seed, 5, 10);
        due("the second year", with("pond 1 0 0;pond 1 0 0;goes 1 " + (later + 1) + ";").years(0, NONE, seed, 2, 2), 2);
        due("the second year, not below", with("pond 1 0 0;pond 1 0 0;goes 1 " + later + ";").years(0, NONE, seed, 2, 2), 0);
        due("no PONDS", with("").years(0, NONE, seed, 99, 0), 0);
        sentence("Terms 3", "All is mended and as it was behind each.");
        due("what went goes again", with("pond 1 0 0;goes 0 10;harm 0 9;").years(0, NONE, 1, 99, 0), 891);
        due("what was filled is no more full", with("pond 3 0 1;rain 2 100;").years(0, NONE, 1, 99, 1), 0);
    }

    private void years() {
        sentence("Promise 27", "YEARS, n 1 .. 99, what 0: HARM, all together, 1: in how many years something went, 2: which went in the last one"
            + " (bits), 10 + p: in how many POND p went.");
        PondStair x = with("pond 1 0 0;pond 1 0 0;goes 0 10;goes 1 5;harm 0 2;harm 1 100;");
        for (int n : new int[] {1, 2, 98, 99}) {
            int second = 0;
            for (int year = 0; year < n; year++) {
                second += drawn(5, 3 * year + 2, 10) < 5 ? 1 : 0;
            }
            boolean last = drawn(5, 3 * n - 1, 10) < 5;
            due(n + " years: HARM", x.years(0, NONE, 5, n, 0), 2L * n + 100L * second);
            due(n + " years: something", x.years(0, NONE, 5, n, 1), n);
            due(n + " years: the last one", x.years(0, NONE, 5, n, 2), last ? 3 : 1);
            due(n + " years: POND 0", x.years(0, NONE, 5, n, 10), n);
            due(n + " years: POND 1", x.years(0, NONE, 5, n, 11), second);
        }
        StringBuilder nine = new StringBuilder("pond 1 0 0;".repeat(9));
        for (int pond = 0; pond < 9; pond++) {
            nine.append("harm ").append(pond).append(" 999;goes ").append(pond).append(" 10;");
        }
        due("the most", with(nine.toString()).years(0, NONE, 5, 99, 0), 890109);
        due("the ninth", with(nine.toString()).years(0, NONE, 5, 99, 18), 99);
        due("all of nine", with(nine.toString()).years(0, NONE, 5, 99, 2), 511);
        sentence("Promise 27", "NONE: there is none such (of any), or for another what.");
        for (int n : new int[] {-1, 0, 100, 101, Integer.MIN_VALUE, Integer.MAX_VALUE}) {
            due(n + " years", x.years(0, NONE, 5, n, 0), NONE);
        }
        for (int what : new int[] {-1, 3, 9, 12, 18, 19, 20, Integer.MIN_VALUE, Integer.MIN_VALUE + 10, Integer.MAX_VALUE}) {
            due("what " + what, x.years(0, NONE, 5, 1, what), NONE);
        }
    }

    private void weighs() {
        sentence("Terms 3", "WEIGHS: of all PONDS the one whose CHANCE, 1 of 10 more (if it is below 10), adds most to MEAN; of several the least.");
        String two = "pond 1 0 0;pond 1 0 0;";
        due("the dearer one", with(two + "harm 0 1;harm 1 2;").weighs(0, NONE), 1);
        due("of several the least", with(two + "harm 0 2;harm 1 2;").weighs(0, NONE), 0);
        due("9 of 10 can be more", with(two + "harm 0 1;harm 1 2;goes 1 9;").weighs(0, NONE), 1);
        due("10 of 10 can't", with(two + "harm 0 1;harm 1 2;goes 1 10;").weighs(0, NONE), 0);
        due("by what it brings down", with("pond 9 9 0;pond 9 9 0;down 0 1;harm 0 1;harm 1 2;").weighs(0, NONE), 0);
        due("less by what goes all the same", with("pond 9 9 0;pond 9 9 0;pond 1 0 0;down 0 1;goes 0 5;harm 1 3;harm 2 2;harm 0 0;").weighs(0, NONE), 0);
        due("the last of nine", with("pond 1 0 0;".repeat(9) + "harm 8 1;").weighs(0, NONE), 8);
        sentence("Promise 31", "WEIGHS.");
        due("the first", with("pond 1 0 0;harm 0 1;").weighs(0, NONE), 0);
        due("by the least that can be", with("pond 0 0 1;goes 0 1;harm 0 1;rain 1 99;rain 0 1;").weighs(0, NONE), 0);
        sentence("Promise 31", "NONE: none adds, or there is none such (of either).");
        due("no HARM", with("pond 1 0 0;").weighs(0, NONE), NONE);
        due("10 of 10", with("pond 1 0 0;goes 0 10;harm 0 1;").weighs(0, NONE), NONE);
        due("by the RAIN all the same", with("pond 0 0 1;harm 0 1;rain 1 100;").weighs(0, NONE), NONE);
        due("OUT", with("pond 1 0 0;harm 0 1;", "out 0;").weighs(0, 0), NONE);
        due("it would make it less", with("pond 9 0 0;pond 9 9 1;down 0 1;gate 1 0;goes 1 10;harm 1 9;rain 1 100;").weighs(0, NONE), NONE);
        due("no PONDS", with("").weighs(0, NONE), NONE);
    }

    // ---- terms 4

    private void around() {
        sentence("Terms 4", "AROUND: a POND that is not OUT and one with a greater number, that is not its DOWN, such that MEAN, if that one were its"
            + " DOWN, is least, and less than it is;");
        // What 0 has runs over 1 (for 9), would run over 2 (for 4), and not over 3.
        String hill = "pond 9 9 0;pond 9 5 0;pond 9 5 0;pond 9 0 0;down 0 1;goes 0 5;harm 1 9;harm 2 4;";
        aroundIs(with(hill), NONE, 0, 3);
        aroundIs(with("pond 9 9 0;pond 9 5 0;pond 9 5 0;down 0 1;goes 0 5;harm 1 9;harm 2 4;"), NONE, 0, 2);
        aroundIs(with("pond 9 9 0;pond 9 5 0;pond 9 5 0;down 0 1;goes 0 5;harm 1 9;harm 2 9;"), NONE, NONE, NONE);
        aroundIs(with("pond 9 9 0;pond 9 5 0;pond 9 5 0;down 0 1;goes 0 5;harm 1 9;harm 2 10;"), NONE, NONE, NONE);
        aroundIs(with("pond 9 9 0;pond 9 5 0;pond 9 5 0;down 0 2;goes 0 5;harm 1 8;harm 2 9;"), NONE, 0, 1);
        // From the brook to a POND: what 0 does is heard there, and saves it.
        aroundIs(with("pond 9 0 0;pond 9 9 1;gate 1 0;goes 0 5;harm 1 9;rain 1 100;"), NONE, 0, 1);
        // One that is OUT is not led around, though MEAN would be less; to one that is OUT another may be led.
        String over = "pond 9 0 9;pond 9 5 0;pond 24 0 0;down 0 1;harm 1 9;rain 1 100;";
        aroundIs(with(over, "out 0;"), 0, NONE, NONE);
        aroundIs(with("pond 5 0 9;pond 9 5 0;pond 24 0 0;down 0 1;harm 1 9;rain 1 100;", "out 2;"), 0, 0, 2);
        sentence("Promise 38", "AROUND: the first one, or (second) the second one.");
        aroundIs(with(hill), NONE, 0, 3);
        sentence("Promise 38", "NONE: none, or there is none such (of either).");
        aroundIs(with("pond 9 9 0;goes 0 5;harm 0 9;"), NONE, NONE, NONE);
        aroundIs(with(""), NONE, NONE, NONE);
        aroundIs(with(hill), 0, NONE, NONE);
        due("no HILL", with(hill).around(1, NONE, false), NONE);
        PondStair later = with(hill);
        Tape.hill(later, "pond 9 9 0;goes 0 5;harm 0 9;");
        due("one that there is", later.around(0, NONE, false), 0);
        due("then none", later.around(1, NONE, false), NONE);
        due("then none, second", later.around(1, NONE, true), NONE);
    }

    private void aroundIs(PondStair x, int plan, int first, int second) {
        due("the first one", x.around(0, plan, false), first);
        due("the second one", x.around(0, plan, true), second);
    }

    private void aroundOfSeveral() {
        sentence("Terms 4", "of several the least first one, then the least second one.");
        aroundIs(with("pond 9 9 0;pond 9 5 0;pond 9 0 0;pond 9 0 0;down 0 1;goes 0 5;harm 1 9;"), NONE, 0, 2);
        // Both 0 and 1 run over 2, each for as much; either may be led to 3.
        aroundIs(with("pond 9 9 0;pond 9 9 0;pond 9 5 0;pond 24 0 0;down 0 2;down 1 2;goes 0 5;goes 1 5;harm 2 9;"), NONE, 0, 3);
        // 0 led to any but 8 spares that one.
        aroundIs(with("pond 9 9 0;".repeat(2) + "pond 24 0 0;".repeat(6) + "pond 9 9 0;down 0 8;goes 0 5;harm 8 9;"), NONE, 0, 1);
    }

    private void better() {
        sentence("Terms 4", "BETTER of two PLANS: which has the lesser MEAN.");
        PondStair x = with("pond 1 0 0;goes 0 2;harm 0 5;", "mend 0 1;", "mend 0 2;", "mend 0 3;");
        int[][] want = {{0, 1, 1}, {1, 0, 0}, {0, 0, 2}, {2, 0, 1}, {0, 2, 0}, {2, NONE, 2}, {NONE, 2, 2}, {NONE, 1, 1}, {1, NONE, 0}, {NONE, NONE, 2}};
        for (int[] w : want) {
            due(w[0] + ", " + w[1], x.better(0, w[0], w[1]), w[2]);
        }
        sentence("Promise 40", "BETTER: 0 the first one, 1 the second one, 2 both alike.");
        PondStair close = with("pond 0 0 1;goes 0 1;harm 0 1;rain 1 99;rain 0 1;", "mend 0 1;", "widen 0 1;widen 0 1;low 0 1;");
        due("lesser by the least that can be", close.better(0, 0, NONE), 0);
        due("greater by the least that can be", close.better(0, NONE, 0), 1);
        due("much lesser", close.better(0, 0, 1), 1);
        due("the first one", x.better(0, 1, 0), 0);
        due("the second one", x.better(0, 0, 1), 1);
        due("alike without PONDS", with("").better(0, NONE, NONE), 2);
        sentence("Promise 40", "NONE: there is none such (of any; NONE as a PLAN: without WORKS).");
        for (int wrong : new int[] {-2, 3, Integer.MIN_VALUE, Integer.MAX_VALUE}) {
            due(wrong + ", 0", x.better(0, wrong, 0), NONE);
            due("0, " + wrong, x.better(0, 0, wrong), NONE);
            due(wrong + ", " + wrong, x.better(0, wrong, wrong), NONE);
        }
        due("no HILL", x.better(1, NONE, NONE), NONE);
    }

    private void spend() {
        sentence("Terms 4", "SPEND of some PONDS, at most 5, to m of 100: the fewest days of sets of these, all mended to 0, with 100 * MEAN at most m"
            + " times what it is.");
        // MEAN 12: without 0 9, without 1 4, without 2 11; of 100: 75, 33 and a third, 91 and two thirds.
        PondStair x = with(APART);
        int[] m = {100, 99, 92, 91, 75, 74, 67, 66, 34, 33, 25, 24, 9, 8, 1, 0};
        int[] want = {0, 2, 2, 3, 3, 4, 4, 4, 4, 6, 6, 7, 7, 9, 9, 9};
        for (int k = 0; k < m.length; k++) {
            due("m " + m[k], x.spend(0, NONE, 7, m[k]), want[k]);
        }
        due("of 5", with(SIX).spend(0, NONE, 62, 50), 1);
        due("of 6", with(SIX).spend(0, NONE, 63, 50), NONE);
        due("for 0 days", with(APART + "mend 0;").spend(0, NONE, 7, 0), 0);
        due("the dearest", with("pond 1 0 0;goes 0 10;harm 0 9;mend 99;").spend(0, NONE, 1, 0), 990);
        due("nothing to lessen", with("pond 1 0 0;").spend(0, NONE, 1, 0), 0);
        sentence("Promise 41", "SPEND, m 0 .. 100.");
        due("0", x.spend(0, NONE, 7, 0), 9);
        due("100", x.spend(0, NONE, 7, 100), 0);
        due("100, of no PONDS", x.spend(0, NONE, 0, 100), 0);
        sentence("Promise 41", "NONE: with none, more than 5, or there is none such (of any).");
        due("to 33, of 0 and 2 alone", x.spend(0, NONE, 5, 33), NONE);
        due("to 66, of 0 and 2 alone", x.spend(0, NONE, 5, 66), NONE);
        due("to 67, of 0 and 2 alone", x.spend(0, NONE, 5, 67), 5);
        due("of no PONDS, to 99", x.spend(0, NONE, 0, 99), NONE);
        due("what the RAIN does all the same", with("pond 0 0 1;goes 0 5;harm 0 9;rain 1 100;").spend(0, NONE, 1, 99), NONE);
        due("-1", x.spend(0, NONE, 7, -1), NONE);
        due("101", x.spend(0, NONE, 7, 101), NONE);
    }
}
