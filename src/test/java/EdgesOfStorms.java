/** Terms 2, of STORMS, and what of terms 3 and 4 is one STORM: promises 10 to 14, 28 to 30, 32 to 37, 39. */
final class EdgesOfStorms extends Edges {
    EdgesOfStorms(Sentences sentences) {
        super(sentences);
    }

    @Override
    void test() {
        water();
        heard();
        heardByWhom();
        goes();
        out();
        aside();
        harm();
        storm();
        parts();
        likelyAndMean();
        rows();
        brings();
        spared();
        deep();
        safe();
        upon();
        runs();
        joint();
        given();
        worst();
        flood();
        twice();
        twiceLevels();
    }

    private void water() {
        sentence("Terms 2", "A STORM by a RAIN, with PONDS (bits) whose banks go by themselves: POND by POND, from 0 on: WATER is"
            + " LEVEL, STEPS * TAKE, and what came from above.");
        PondStair x = with("pond 24 5 2;pond 24 1 3;pond 24 0 0;down 0 2;down 1 2;rain 0 40;rain 1 30;rain 9 30;");
        int[][] want = {{5, 1, 0}, {7, 4, 0}, {23, 28, 28}};
        for (int rain = 0; rain < 3; rain++) {
            for (int pond = 0; pond < 3; pond++) {
                due("RAIN " + rain + ", POND " + pond, x.storm(0, NONE, rain, 0, 10 + pond), want[rain][pond]);
            }
        }
        due("from both above", x.storm(0, NONE, 1, 3, 12), 11);
        due("from the first alone", x.storm(0, NONE, 1, 1, 12), 7);
        due("one behind the other", with("pond 9 9 0;pond 9 9 0;pond 9 9 0;down 0 1;down 1 2;").storm(0, NONE, 0, 1, 12), 27);
        due("the most", with("pond 24 24 9;".repeat(9) + "down 0 8;down 1 8;down 2 8;down 3 8;down 4 8;down 5 8;down 6 8;down 7 8;"
            + "rain 9 100;").storm(0, NONE, 0, 511, 18), 945);
    }

    private void heard() {
        sentence("Terms 2", "It is HEARD, if it has a GATE and some POND whose DOWN or ASIDE it is went, whose WAY is at least its"
            + " GATE: then WATER is without LEVEL, which leaves it, too.");
        String hill = "pond 9 6 0;pond 9 7 1;pond 9 0 0;down 0 1;down 1 2;rain 1 100;";
        int[][] wayAndGate = {{4, 4}, {5, 4}, {3, 4}, {0, 0}, {0, 1}, {99, 99}, {98, 99}, {99, 0}};
        for (int[] wg : wayAndGate) {
            PondStair x = with(hill + "way 0 " + wg[0] + ";gate 1 " + wg[1] + ";");
            boolean heard = wg[0] >= wg[1];
            String case1 = "WAY " + wg[0] + ", GATE " + wg[1];
            due(case1 + ": HEARD", x.storm(0, NONE, 0, 1, 31), heard ? 1 : 0);
            due(case1 + ": WATER", x.storm(0, NONE, 0, 1, 11), heard ? 7 : 14);
            due(case1 + ": what left it", x.storm(0, NONE, 0, 1, 21), heard ? 7 : 14);
            due(case1 + ": went", x.storm(0, NONE, 0, 1, 0), heard ? 1 : 7);
            due(case1 + ": unless that went", x.storm(0, NONE, 0, 0, 31), 0);
            due(case1 + ": WATER, unless that went", x.storm(0, NONE, 0, 0, 11), 8);
            due(case1 + ": its own bank is not enough", x.storm(0, NONE, 0, 2, 31), 0);
            due(case1 + ": its own bank, too", x.storm(0, NONE, 0, 3, 21), 14);
        }
        due("without a GATE", with(hill + "way 0 99;").storm(0, NONE, 0, 1, 31), 0);
        PondStair over = with("pond 9 6 0;pond 4 4 9;down 0 1;gate 1 0;rain 1 100;bears 1 11;");
        due("LEVEL leaves, and what is above HOLDS", over.storm(0, NONE, 0, 1, 21), 15);
        due("that is no bank gone", over.storm(0, NONE, 0, 1, 0), 1);
    }

    private void heardByWhom() {
        PondStair aside = with("pond 9 6 0;pond 9 7 0;aside 0 1 0;gate 1 0;");
        due("by ASIDE, also of 0 of 10", aside.storm(0, NONE, 0, 1, 31), 1);
        PondStair apart = with("pond 9 2 0;pond 9 7 0;pond 9 5 0;down 0 1;down 1 2;way 0 99;gate 2 0;");
        due("not from further above", apart.storm(0, NONE, 0, 1, 32), 0);
        due("from above", apart.storm(0, NONE, 0, 2, 32), 1);
        PondStair two = with("pond 9 2 0;pond 9 2 0;pond 9 5 0;down 0 2;down 1 2;way 0 4;way 1 7;gate 2 5;");
        due("the one with the short WAY went", two.storm(0, NONE, 0, 1, 32), 0);
        due("the one with the long WAY went", two.storm(0, NONE, 0, 2, 32), 1);
        due("both went", two.storm(0, NONE, 0, 3, 32), 1);
        PondStair top = with("pond 9 2 0;pond 9 2 0;gate 0 0;gate 1 0;way 0 9;");
        due("the top one hears none", top.storm(0, NONE, 0, 3, 30), 0);
        due("one to which none leads hears none", top.storm(0, NONE, 0, 3, 31), 0);
        PondStair led = with("pond 9 2 0;pond 9 2 0;pond 9 2 0;down 0 1;gate 1 0;gate 2 0;", "round 0 2;");
        due("led round: the old one", led.storm(0, 0, 0, 1, 31), 0);
        due("led round: the new one", led.storm(0, 0, 0, 1, 32), 1);
        PondStair both = with("pond 9 2 0;pond 9 2 0;pond 9 2 0;pond 9 2 0;down 0 1;aside 0 2 5;gate 1 0;gate 2 0;gate 3 0;");
        int[] heard = {0, 1, 1, 0};
        for (int pond = 0; pond < 4; pond++) {
            due("two hear one: POND " + pond, both.storm(0, NONE, 0, 1, 30 + pond), heard[pond]);
        }
    }

    private void goes() {
        sentence("Terms 2", "It GOES, if it is one of these, or WATER less HOLDS is above BEARS: all WATER leaves it; else what is"
            + " above HOLDS (0 at least).");
        // WATER 4 + STEPS; HOLDS 5, BEARS 3: borne up to 8.
        PondStair x = with("pond 5 4 1;bears 0 3;rain 0 25;rain 1 25;rain 4 25;rain 5 25;");
        int[] went = {0, 0, 0, 1};
        int[] left = {0, 0, 3, 9};
        for (int rain = 0; rain < 4; rain++) {
            due("RAIN " + rain, x.storm(0, NONE, rain, 0, 0), went[rain]);
            due("RAIN " + rain + ", what left", x.storm(0, NONE, rain, 0, 20), left[rain]);
            due("RAIN " + rain + ", its bank", x.storm(0, NONE, rain, 1, 0), 1);
            due("RAIN " + rain + ", its bank, what left", x.storm(0, NONE, rain, 1, 20), x.storm(0, NONE, rain, 1, 10));
        }
        PondStair bare = with("pond 0 0 1;rain 0 50;rain 1 50;");
        due("no more than HOLDS, BEARS 0", bare.storm(0, NONE, 0, 0, 0), 0);
        due("1 more than HOLDS, BEARS 0", bare.storm(0, NONE, 1, 0, 0), 1);
        PondStair wide = with("pond 1 1 8;bears 0 24;rain 3 50;rain 4 50;", "low 0 1;");
        due("24 above HOLDS, BEARS 24", wide.storm(0, NONE, 0, 0, 0), 0);
        due("32 above HOLDS, BEARS 24", wide.storm(0, NONE, 1, 0, 0), 1);
        due("an empty POND whose bank goes", with("pond 1 0 0;").storm(0, NONE, 0, 1, 0), 1);
        due("the WATER of an empty one", with("pond 1 0 0;").storm(0, NONE, 0, 1, 20), 0);
    }

    private void out() {
        sentence("Terms 2", "One that is OUT never GOES, all leaves it.");
        PondStair x = with("pond 9 5 3;pond 9 5 0;pond 24 0 0;down 0 1;down 1 2;goes 1 9;harm 1 9;gate 1 0;rain 2 100;", "out 1;");
        for (int banks = 0; banks < 8; banks++) {
            due("banks " + banks, x.storm(0, 0, 0, banks, 0) & 2, 0);
            due("banks " + banks + ", WATER", x.storm(0, 0, 0, banks, 11), x.storm(0, 0, 0, banks, 20));
            due("banks " + banks + ", what left", x.storm(0, 0, 0, banks, 21), x.storm(0, 0, 0, banks, 20));
        }
        due("by much WATER", with("pond 0 0 9;rain 9 100;", "out 0;").storm(0, 0, 0, 0, 0), 0);
        due("all of it leaves", with("pond 0 0 9;rain 9 100;", "out 0;").storm(0, 0, 0, 0, 40), 81);
        due("of little, too", with("pond 9 5 1;rain 1 100;", "out 0;").storm(0, 0, 0, 0, 20), 1);
        due("LIKELY", x.likely(0, 0, 1), 0);
    }

    private void aside() {
        sentence("Terms 2", "Of what leaves it n of 10, cut, comes to ASIDE, the rest to DOWN (or the brook).");
        int[] share = {0, 1, 3, 5, 9, 10};
        int[] want = {0, 1, 5, 9, 17, 19};
        for (int k = 0; k < share.length; k++) {
            PondStair x = with("pond 24 19 0;pond 24 0 0;pond 24 0 0;down 0 1;aside 0 2 " + share[k] + ";");
            due(share[k] + " of 10 of 19 to ASIDE", x.storm(0, NONE, 0, 1, 12), want[k]);
            due("the rest to DOWN", x.storm(0, NONE, 0, 1, 11), 19 - want[k]);
            due("none to the brook", x.storm(0, NONE, 0, 1, 40), 0);
            PondStair brook = with("pond 24 19 0;pond 24 0 0;aside 0 1 " + share[k] + ";");
            due("the rest to the brook", brook.storm(0, NONE, 0, 1, 40), 19 - want[k]);
            PondStair one = with("pond 24 19 0;pond 24 0 0;down 0 1;aside 0 1 " + share[k] + ";");
            due("both to one POND", one.storm(0, NONE, 0, 1, 11), 19);
        }
        PondStair three = with("pond 9 5 0;pond 9 6 0;pond 9 7 0;pond 24 1 0;aside 0 3 10;aside 1 3 5;down 2 3;");
        due("by ASIDE of two, by DOWN of one, and its own", three.storm(0, NONE, 0, 7, 13), 16);
        due("by ASIDE alone", three.storm(0, NONE, 0, 3, 13), 9);
        due("1 of 10 of 9, cut", with("pond 9 9 0;pond 24 0 0;aside 0 1 1;").storm(0, NONE, 0, 1, 11), 0);
        due("1 of 10 of 10", with("pond 10 10 0;pond 24 0 0;aside 0 1 1;").storm(0, NONE, 0, 1, 11), 1);
        PondStair spill = with("pond 5 5 1;pond 9 0 0;pond 9 0 0;bears 0 9;down 0 1;aside 0 2 5;rain 5 100;");
        due("of what is above HOLDS", spill.storm(0, NONE, 0, 0, 12), 2);
        due("the rest of it", spill.storm(0, NONE, 0, 0, 11), 3);
        PondStair out = with("pond 5 5 1;pond 9 0 0;pond 9 0 0;down 0 1;aside 0 2 5;rain 5 100;", "out 0;");
        due("of one OUT", out.storm(0, 0, 0, 0, 12), 2);
        due("the rest of one OUT", out.storm(0, 0, 0, 0, 11), 3);
    }

    private void harm() {
        sentence("Terms 2", "HARM of a STORM: that of all that went.");
        PondStair x = with("pond 1 0 0;pond 1 0 0;pond 1 0 0;harm 0 999;harm 2 5;");
        int[] want = {0, 999, 0, 999, 5, 1004, 5, 1004};
        for (int banks = 0; banks < 8; banks++) {
            due("banks " + banks, x.storm(0, NONE, 0, banks, 1), want[banks]);
        }
        StringBuilder nine = new StringBuilder("pond 1 0 0;".repeat(9));
        for (int pond = 0; pond < 9; pond++) {
            nine.append("harm ").append(pond).append(" 999;");
        }
        due("the most", with(nine.toString()).storm(0, NONE, 0, 511, 1), 8991);
    }

    private void storm() {
        sentence("Promise 10", "A STORM, what 0: which PONDS went (bits), 1: HARM, 10 + p: WATER of POND p, 20 + p: what left it, 30 +"
            + " p: 1 if it was HEARD, else 0, 40: what came to the brook.");
        PondStair x = with("pond 1 0 1;".repeat(9) + "down 0 8;gate 8 0;harm 8 6;harm 0 2;rain 2 100;");
        due("which went", x.storm(0, NONE, 0, 0, 0), 511);
        due("HARM", x.storm(0, NONE, 0, 0, 1), 8);
        for (int pond = 0; pond < 9; pond++) {
            due("WATER of " + pond, x.storm(0, NONE, 0, 0, 10 + pond), pond == 8 ? 4 : 2);
            due("what left " + pond, x.storm(0, NONE, 0, 0, 20 + pond), pond == 8 ? 4 : 2);
            due("HEARD " + pond, x.storm(0, NONE, 0, 0, 30 + pond), pond == 8 ? 1 : 0);
        }
        due("the brook", x.storm(0, NONE, 0, 0, 40), 18);
        PondStair none = with("");
        due("no PONDS: which went", none.storm(0, NONE, 0, 0, 0), 0);
        due("no PONDS: HARM", none.storm(0, NONE, 0, 0, 1), 0);
        due("no PONDS: the brook", none.storm(0, NONE, 0, 0, 40), 0);
        due("no PONDS: WATER of 0", none.storm(0, NONE, 0, 0, 10), NONE);
        due("no PONDS: bank 0", none.storm(0, NONE, 0, 1, 0), NONE);
        due("no PONDS: RAIN 1", none.storm(0, NONE, 1, 0, 0), NONE);
    }

    // ---- all STORMS

    private void parts() {
        sentence("Terms 2", "All STORMS: PARTS, 100 * 10 to as many PONDS as there are: a RAIN by its CHANCE, each POND by its own.");
        long all = 100;
        for (int ponds = 0; ponds <= 9; ponds++) {
            due(ponds + " PONDS", with("pond 1 0 0;".repeat(ponds)).likely(0, NONE, NONE), all);
            all *= 10;
        }
        due("one OUT counts, too", with("pond 1 0 0;pond 1 0 0;", "out 0;").likely(0, 0, NONE), 10000);
        PondStair x = with("pond 1 0 1;pond 1 0 0;goes 0 3;goes 1 7;rain 0 99;rain 2 1;");
        due("RAINS by their CHANCES", x.likely(0, NONE, 0), 99 * 30 + 100);
        due("PONDS by theirs", x.joint(0, NONE, 0, 1), 99 * 21 + 70);
        onePart();
        due("a RAIN of 0 has none", with("pond 1 0 1;rain 0 100;rain 9 0;").likely(0, NONE, 0), 0);
        due("a RAIN of 100 has all", with("pond 1 0 1;rain 0 0;rain 9 100;").likely(0, NONE, 0), 1000);
    }

    /** A STORM of one PART alone counts, of all STORMS that have PARTS the least. */
    private void onePart() {
        String hill = "pond 0 0 1;goes 0 1;harm 0 7;rain 0 1;rain 1 99;";
        due("LIKELY with one PART", with(hill).likely(0, NONE, 0), 991);
        due("MEAN with one PART", with(hill).mean(0, NONE, NONE), 6937);
        due("ROWS with one PART", with(hill).rows(0, NONE, true), 991);
        due("JOINT with one PART", with(hill).joint(0, NONE, 0, 0), 991);
        PondStair rare = with("pond 3 3 0;goes 0 1;harm 0 7;rain 0 1;rain 0 99;");
        due("WORST of one PART: its RAIN", rare.worst(0, NONE, 0), 0);
        due("WORST of one PART", rare.worst(0, NONE, 3), 1);
        PondStair flood = with("pond 3 3 1;bears 0 9;goes 0 1;rain 9 1;rain 0 99;");
        due("FLOOD of one PART", flood.flood(0, NONE), 12);
        due("MEAN mended by one PART", with(hill).mended(0, NONE, 1), 6930);
        due("GIVEN by one PART", with("pond 3 3 0;goes 0 1;rain 0 1;rain 0 99;").given(0, NONE, 0, 0, true), 1);
    }

    private void likelyAndMean() {
        sentence("Terms 2", "LIKELY of a POND: in how many PARTS it GOES; MEAN: HARM by PARTS, all together; MEAN of an OWNER: of his"
            + " PONDS alone.");
        PondStair x = with("pond 9 9 0;pond 9 9 0;down 0 1;goes 0 4;goes 1 1;harm 0 5;harm 1 999;owner 1 3;");
        due("the first", x.likely(0, NONE, 0), 4000);
        due("the second, by itself and by the first", x.likely(0, NONE, 1), 4600);
        due("MEAN", x.mean(0, NONE, NONE), 4000 * 5 + 4600 * 999);
        due("MEAN of 0", x.mean(0, NONE, 0), 20000);
        due("MEAN of 3", x.mean(0, NONE, 3), 4600 * 999);
        due("MEAN of 1, who has none", x.mean(0, NONE, 1), 0);
        StringBuilder nine = new StringBuilder("pond 1 0 0;".repeat(9));
        for (int pond = 0; pond < 9; pond++) {
            nine.append("harm ").append(pond).append(" 999;goes ").append(pond).append(" 10;");
        }
        due("the most", with(nine.toString()).mean(0, NONE, NONE), 899100000000000L);
        sentence("Promise 11", "LIKELY of a POND, or (pond NONE) all PARTS.");
        due("0", x.likely(0, NONE, 0), 4000);
        due("NONE", x.likely(0, NONE, NONE), 10000);
        due("never", with("pond 1 0 0;").likely(0, NONE, 0), 0);
        due("always", with("pond 1 0 0;goes 0 10;").likely(0, NONE, 0), 1000);
        sentence("Promise 12", "MEAN (owner NONE), or that of an OWNER.");
        due("NONE", x.mean(0, NONE, NONE), 4615400);
        due("3", x.mean(0, NONE, 3), 4595400);
        due("without PONDS", with("").mean(0, NONE, NONE), 0);
        due("without PONDS, of 3", with("").mean(0, NONE, 3), 0);
    }

    private void rows() {
        sentence("Terms 2", "ROWS: the set of PONDS that went in most PARTS together; of several the least number.");
        due("none of them", with("pond 1 0 0;goes 0 4;").rows(0, NONE, false), 0);
        due("as often as not", with("pond 1 0 0;goes 0 5;").rows(0, NONE, false), 0);
        due("more often than not", with("pond 1 0 0;goes 0 6;").rows(0, NONE, false), 1);
        PondStair two = with("pond 9 9 0;pond 9 9 0;down 0 1;goes 0 5;goes 1 5;");
        due("by itself or by another: PARTS are one row", two.rows(0, NONE, false), 3);
        due("its PARTS", two.rows(0, NONE, true), 5000);
        due("of all four the least", with("pond 1 0 0;pond 1 0 0;goes 0 5;goes 1 5;").rows(0, NONE, false), 0);
        PondStair later = with("pond 1 0 0;pond 1 0 0;goes 0 10;goes 1 5;");
        due("of 1 and 3 the least", later.rows(0, NONE, false), 1);
        PondStair up = with("pond 1 0 0;pond 1 0 0;goes 0 5;goes 1 10;");
        due("of 2 and 3 the least", up.rows(0, NONE, false), 2);
        due("all of nine", with("pond 0 0 1;".repeat(9) + "rain 1 100;").rows(0, NONE, false), 511);
        sentence("Promise 13", "ROWS: the set (bits), or (parts) its PARTS.");
        due("the set", up.rows(0, NONE, false), 2);
        due("its PARTS", up.rows(0, NONE, true), 5000);
        due("without PONDS", with("").rows(0, NONE, false), 0);
        due("without PONDS, PARTS", with("").rows(0, NONE, true), 100);
        due("all of nine, PARTS", with("pond 0 0 1;".repeat(9) + "rain 1 100;").rows(0, NONE, true), 100000000000L);
    }

    private void brings() {
        sentence("Terms 2", "BRINGS of a POND by a RAIN: of sets of PONDS with which it GOES that of the fewest; of several the least"
            + " number.");
        PondStair x = with("pond 9 4 1;pond 9 4 1;pond 9 6 1;down 0 2;down 1 2;rain 0 50;rain 9 50;");
        due("none, where the RAIN is enough", x.brings(0, NONE, 1, 0), 0);
        due("one above brings it down", x.brings(0, NONE, 0, 2), 1);
        due("its own bank", x.brings(0, NONE, 0, 0), 1);
        due("its own bank, of 1", x.brings(0, NONE, 0, 1), 2);
        due("its own bank, of a POND alone", with("pond 1 0 0;").brings(0, NONE, 0, 0), 1);
        PondStair y = with("pond 9 1 0;pond 9 4 0;pond 9 6 0;down 0 2;down 1 2;");
        due("of two single ones the least", y.brings(0, NONE, 0, 2), 2);
        PondStair both = with("pond 9 2 0;pond 9 2 0;pond 9 6 0;down 0 2;down 1 2;");
        due("two above are more than its own bank", both.brings(0, NONE, 0, 2), 4);
        // POND 0 going is heard: its GATE saves what the RAIN would run over.
        PondStair heard = with("pond 9 0 0;pond 9 9 1;down 0 1;gate 1 0;rain 1 100;");
        due("the empty set, though a bank would save it", heard.brings(0, NONE, 0, 1), 0);
        sentence("Promise 14", "BRINGS (bits).");
        due("the ninth", with("pond 1 0 0;".repeat(9)).brings(0, NONE, 0, 8), 256);
        sentence("Promise 14", "NONE: there is none such (of any).");
        due("of one OUT", with("pond 1 1 1;", "out 0;").brings(0, 0, 0, 0), NONE);
    }

    // ---- one STORM, by terms 3

    private void spared() {
        sentence("Terms 3", "SPARED: of sets of PONDS that go by themselves, how many, by a RAIN, bring no other one down.");
        // {0} brings 1 down, {0, 1} none other; RAIN 1 brings both down.
        PondStair x = with("pond 9 6 4;pond 9 6 4;down 0 1;rain 0 50;rain 1 50;");
        due("three of four", x.spared(0, NONE, 0), 3);
        due("all of them alone", x.spared(0, NONE, 1), 1);
        due("none above its HOLDS", with("pond 9 0 0;".repeat(9)).spared(0, NONE, 0), 512);
        due("without PONDS the empty set", with("").spared(0, NONE, 0), 1);
        due("with one OUT", with("pond 9 0 0;pond 9 9 0;down 0 1;", "out 1;").spared(0, 0, 0), 4);
        sentence("Promise 28", "SPARED.");
        due("POND 0 alone", with("pond 1 1 0;").spared(0, NONE, 0), 2);
        due("a POND by the RAIN", with("pond 1 1 1;rain 1 100;").spared(0, NONE, 0), 1);
    }

    private void deep() {
        sentence("Terms 3", "DEEP: the most PONDS that went in one STORM by some RAIN and some set of banks that CAN go (CHANCE above 0).");
        String chain = "pond 9 9 0;pond 9 9 0;pond 9 9 0;down 0 1;down 1 2;";
        due("none CAN go", with(chain).deep(0, NONE), 0);
        due("the last CAN", with(chain + "goes 2 1;").deep(0, NONE), 1);
        due("the middle one CAN", with(chain + "goes 1 1;").deep(0, NONE), 2);
        due("the first CAN", with(chain + "goes 0 1;").deep(0, NONE), 3);
        due("it CAN, but for a PLAN", with(chain + "goes 0 1;", "mend 0 1;").deep(0, 0), 0);
        due("all nine", with("pond 0 0 1;".repeat(9) + "rain 0 99;rain 1 1;").deep(0, NONE), 9);
        due("by a RAIN of any CHANCE", with("pond 0 0 1;rain 0 100;rain 1 0;").deep(0, NONE), 1);
        due("in one STORM, not in several", with("pond 0 0 1;pond 9 9 0;down 0 1;gate 1 0;goes 1 5;rain 0 50;rain 1 50;").deep(0, NONE), 2);
        sentence("Promise 29", "DEEP.");
        due("without PONDS", with("").deep(0, NONE), 0);
        due("one", with("pond 1 0 0;goes 0 10;").deep(0, NONE), 1);
    }

    private void safe() {
        sentence("Terms 3", "SAFE: the greatest STEPS, 0 .. 9, of a RAIN by which, no bank going by itself, none GOES.");
        for (int holds = 0; holds < 12; holds++) {
            due("HOLDS " + holds, with("pond " + holds + " 0 1;").safe(0, NONE), Math.min(holds, 9));
        }
        due("also of one that surely goes by itself", with("pond 5 0 1;goes 0 10;").safe(0, NONE), 5);
        due("whatever RAINS there are", with("pond 5 0 1;rain 9 100;").safe(0, NONE), 5);
        due("the other POND", with("pond 5 0 1;pond 3 0 1;").safe(0, NONE), 3);
        due("0 alone", with("pond 5 5 9;").safe(0, NONE), 0);
        due("what is borne is safe", with("pond 5 0 1;bears 0 2;").safe(0, NONE), 7);
        sentence("Promise 30", "SAFE.");
        due("without PONDS", with("").safe(0, NONE), 9);
        sentence("Promise 30", "NONE: with none, or there is none such (of either).");
        // A LEVEL is HOLDS at most, so that by 0 STEPS none GOES: "with none" can't be seen.
        PondStair x = with("pond 24 24 9;".repeat(9));
        due("all as full as may be", x.safe(0, NONE), 0);
        due("no HILL", x.safe(1, NONE), NONE);
        due("no PLAN", x.safe(0, 0), NONE);
    }

    // ---- terms 4

    private void upon() {
        sentence("Terms 4", "UPON of a POND: PONDS (bits) from which water can come to it, by DOWN and ASIDE (also by 0 of 10), one"
            + " behind the other; BELOW: to which it can come from it.");
        PondStair x = with("pond 1 0 0;".repeat(9) + "down 0 1;down 1 8;aside 2 3 0;down 3 8;aside 3 4 10;", "out 1;round 0 2;");
        int[] upon = {0, 1, 0, 4, 12, 0, 0, 0, 15};
        int[] below = {258, 256, 280, 272, 0, 0, 0, 0, 0};
        int[] ledUpon = {0, 0, 1, 5, 13, 0, 0, 0, 15};
        for (int pond = 0; pond < 9; pond++) {
            due("UPON " + pond, x.upon(0, NONE, pond, false), upon[pond]);
            due("BELOW " + pond, x.upon(0, NONE, pond, true), below[pond]);
            due("UPON " + pond + " by a PLAN", x.upon(0, 0, pond, false), ledUpon[pond]);
        }
        due("through one OUT", with("pond 1 0 0;pond 1 0 0;pond 1 0 0;down 0 1;down 1 2;", "out 1;").upon(0, 0, 2, false), 3);
        sentence("Promise 32", "UPON, or (below) BELOW.");
        due("a POND alone, UPON", with("pond 1 0 0;").upon(0, NONE, 0, false), 0);
        due("a POND alone, BELOW", with("pond 1 0 0;").upon(0, NONE, 0, true), 0);
        PondStair all = with("pond 1 0 0;".repeat(9) + "down 0 1;down 1 2;down 2 3;down 3 4;down 4 5;down 5 6;down 6 7;down 7 8;");
        due("all but itself, UPON", all.upon(0, NONE, 8, false), 255);
        due("all but itself, BELOW", all.upon(0, NONE, 0, true), 510);
    }

    private void runs() {
        sentence("Terms 4", "RUNS: the least STEPS, 0 .. 9, by which it GOES, no bank going by itself.");
        for (int holds = 0; holds < 11; holds++) {
            due("HOLDS " + holds, with("pond " + holds + " 0 1;goes 0 10;").runs(0, NONE, 0), holds < 9 ? holds + 1 : NONE);
        }
        due("by what comes from above", with("pond 2 0 1;pond 9 9 0;down 0 1;").runs(0, NONE, 1), 3);
        due("what is borne is no going", with("pond 2 0 1;bears 0 6;").runs(0, NONE, 0), 9);
        due("what is borne, too", with("pond 2 0 1;bears 0 7;").runs(0, NONE, 0), NONE);
        sentence("Promise 33", "RUNS.");
        due("the second", with("pond 9 0 0;pond 5 5 5;").runs(0, NONE, 1), 1);
        sentence("Promise 33", "NONE: by none, or there is none such (of any).");
        due("without TAKE", with("pond 5 5 0;").runs(0, NONE, 0), NONE);
        due("of one OUT", with("pond 5 5 9;", "out 0;").runs(0, 0, 0), NONE);
        due("none such", with("pond 5 5 9;").runs(0, NONE, 1), NONE);
    }

    private void joint() {
        sentence("Terms 4", "JOINT of two PONDS: in how many PARTS both GO.");
        PondStair x = with("pond 9 9 0;pond 9 9 0;pond 9 0 0;down 0 1;goes 0 4;goes 1 1;goes 2 3;");
        due("0 and 1", x.joint(0, NONE, 0, 1), 40000);
        due("1 and 0", x.joint(0, NONE, 1, 0), 40000);
        due("1 and 2", x.joint(0, NONE, 1, 2), 13800);
        due("one with itself", x.joint(0, NONE, 1, 1), 46000);
        sentence("Promise 34", "JOINT.");
        due("never", with("pond 9 0 0;pond 9 0 0;goes 0 10;").joint(0, NONE, 0, 1), 0);
        due("always", with("pond 9 0 0;pond 9 0 0;goes 0 10;goes 1 10;").joint(0, NONE, 0, 1), 10000);
    }

    private void given() {
        sentence("Terms 4", "GIVEN: of PARTS in which the first one GOES those in which the second one does, as a fraction in least terms.");
        PondStair x = with("pond 9 9 0;pond 9 9 0;pond 9 0 0;down 0 1;goes 0 4;goes 1 1;goes 2 3;", "mend 0 4;");
        int[][] pairs = {{0, 1, 1, 1}, {1, 0, 20, 23}, {0, 2, 3, 10}, {2, 2, 1, 1}, {2, 1, 23, 50}};
        for (int[] p : pairs) {
            due(p[0] + ", " + p[1], x.given(0, NONE, p[0], p[1], false), p[2]);
            due(p[0] + ", " + p[1] + ", under", x.given(0, NONE, p[0], p[1], true), p[3]);
        }
        sentence("Promise 35", "GIVEN, above, or (under) below the line.");
        due("never: above", x.given(0, 0, 1, 0, false), 0);
        due("never: below", x.given(0, 0, 1, 0, true), 1);
        sentence("Promise 35", "NONE: the first one GOES in no PARTS, or there is none such (of any).");
        due("above", x.given(0, 0, 0, 1, false), NONE);
        due("below", x.given(0, 0, 0, 1, true), NONE);
        due("of one with itself", x.given(0, 0, 0, 0, true), NONE);
        PondStair rare = with("pond 0 0 1;pond 1 0 0;rain 0 99;rain 1 1;");
        due("in few PARTS", rare.given(0, NONE, 0, 1, true), 1);
        due("only by a RAIN without PARTS", with("pond 0 0 1;rain 0 100;rain 1 0;").given(0, NONE, 0, 0, false), NONE);
    }

    private void worst() {
        sentence("Terms 4", "WORST: of STORMS that have PARTS that with the most HARM; of several the least RAIN, then the least banks.");
        // Most HARM would be by RAIN 0, which has no PARTS, or with bank 2, which has none.
        PondStair x = with("pond 9 5 1;pond 9 5 1;pond 9 0 0;goes 0 5;goes 1 5;harm 0 4;harm 1 4;harm 2 9;rain 9 0;rain 0 40;rain 0 60;");
        long[] want = {1, 3, 8, 10000};
        for (int what = 0; what < 4; what++) {
            due("what " + what, x.worst(0, NONE, what), want[what]);
        }
        PondStair sure = with("pond 9 5 0;pond 9 5 0;goes 0 10;goes 1 5;harm 0 4;");
        due("the least banks that have PARTS", sure.worst(0, NONE, 1), 1);
        due("their PARTS", sure.worst(0, NONE, 3), 5000);
        PondStair rain = with("pond 0 0 1;goes 0 5;harm 0 4;rain 0 30;rain 1 70;");
        due("the least RAIN, then banks", rain.worst(0, NONE, 0), 0);
        due("its banks", rain.worst(0, NONE, 1), 1);
        sentence("Promise 36", "WORST, what 0: its RAIN, 1: banks, 2: HARM, 3: PARTS.");
        PondStair none = with("");
        long[] empty = {0, 0, 0, 100};
        for (int what = 0; what < 4; what++) {
            due("without PONDS, what " + what, none.worst(0, NONE, what), empty[what]);
        }
        due("without HARM, PARTS", with("pond 1 0 0;goes 0 3;").worst(0, NONE, 3), 700);
    }

    private void flood() {
        sentence("Terms 4", "FLOOD: the most that comes to the brook in a STORM that has PARTS.");
        String two = "pond 9 7 1;pond 9 4 1;";
        due("none has PARTS with a bank", with(two).flood(0, NONE), 0);
        due("the first CAN", with(two + "goes 0 1;").flood(0, NONE), 7);
        due("both CAN", with(two + "goes 0 1;goes 1 1;").flood(0, NONE), 11);
        due("by a RAIN with PARTS", with(two + "rain 0 99;rain 9 1;").flood(0, NONE), 29);
        due("by a RAIN without", with(two + "rain 0 100;rain 9 0;").flood(0, NONE), 0);
        due("to a POND is not to the brook", with(two + "down 0 1;goes 0 1;bears 1 9;").flood(0, NONE), 2);
        sentence("Promise 37", "FLOOD.");
        due("without PONDS", with("").flood(0, NONE), 0);
        due("the most of nine", with("pond 24 24 9;".repeat(9) + "rain 9 100;").flood(0, NONE), 945);
    }

    private void twice() {
        sentence("Terms 4", "TWICE: behind a STORM each POND that went is OUT, each other one (not OUT) has for LEVEL its WATER, HOLDS at"
            + " most; then a second STORM.");
        PondStair x = with("pond 9 6 1;pond 9 5 1;pond 24 0 0;down 0 1;down 1 2;harm 0 4;harm 1 2;rain 0 50;rain 3 50;", "out 0;");
        due("what went is OUT: its bank", x.twice(0, NONE, 0, 1, 0, 1, 0) & 1, 0);
        due("what went is OUT: its WATER", x.twice(0, NONE, 0, 1, 1, 0, 10), 3);
        due("what went is OUT: all leaves", x.twice(0, NONE, 0, 1, 1, 0, 20), 3);
        due("its HARM is none", x.twice(0, NONE, 0, 3, 0, 3, 1), 0);
        due("what stayed: its bank", x.twice(0, NONE, 0, 1, 0, 4, 0), 4);
        due("one OUT ahead stays OUT", x.twice(0, 0, 0, 0, 0, 1, 0), 0);
        due("one OUT ahead has no LEVEL", x.twice(0, 0, 1, 0, 0, 0, 10), 0);
        due("one OUT ahead: its WATER by RAIN 1", x.twice(0, 0, 1, 0, 1, 0, 10), 3);
        due("it is for this call alone", x.storm(0, NONE, 0, 1, 0), 3);
    }

    private void twiceLevels() {
        // WATER 6 + 3 of the first STORM are 9, all that it HOLDS; 1 more is borne and leaves.
        PondStair x = with("pond 9 6 1;bears 0 9;rain 0 25;rain 3 25;rain 4 25;rain 9 25;");
        int[] level = {6, 9, 9, 9};
        for (int rain = 0; rain < 4; rain++) {
            due("LEVEL behind RAIN " + rain, x.twice(0, NONE, rain, 0, 0, 0, 10), level[rain]);
            due("WATER of the second, by RAIN 1", x.twice(0, NONE, rain, 0, 1, 0, 10), level[rain] + 3);
        }
        PondStair heard = with("pond 9 6 0;pond 9 7 1;down 0 1;gate 1 0;rain 0 50;rain 2 50;");
        due("one that was HEARD has its WATER, without LEVEL", heard.twice(0, NONE, 1, 1, 0, 0, 11), 8);
        due("it does not hear one that is OUT", heard.twice(0, NONE, 0, 1, 0, 1, 31), 0);
        due("it hears in the second STORM", heard.twice(0, NONE, 0, 0, 0, 1, 31), 1);
        sentence("Promise 39", "TWICE: of the second STORM (by a RAIN, with banks), as storm() has it.");
        PondStair y = with("pond 1 0 1;".repeat(9) + "down 0 8;gate 8 0;harm 8 6;harm 0 2;rain 0 50;rain 2 50;");
        int[] whats = {0, 1, 10, 18, 20, 28, 30, 38, 40};
        for (int what : whats) {
            due("behind a dry STORM as one alone, " + what, y.twice(0, NONE, 0, 0, 1, 5, what), y.storm(0, NONE, 1, 5, what));
        }
        due("the other way round all went", y.twice(0, NONE, 1, 0, 0, 511, 0), 0);
        due("a dry one of none", with("").twice(0, NONE, 0, 0, 0, 0, 40), 0);
    }
}
