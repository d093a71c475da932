import java.util.ArrayList;
import java.util.List;

/** The calls that ask of a HILL, promises 6 to 41, with answers worked out by hand. */
final class Rows {
    private static final int NONE = -1;

    /**
     * PARTS are 10000. RAIN 0 (60 of 100): no bank: none goes; POND 0's: both; POND 1's: it alone. RAIN 1: both go,
     * whatever banks go, and 11 come to the brook. POND 0 GOES in 7000 PARTS, POND 1 in 7600, MEAN is 830000.
     * With POND 0 mended MEAN is 560000 (15 days), with POND 1 770000 (6 days), with both 440000.
     */
    static final String TOLD = "pond 4 4 1;pond 6 3 1;down 0 1;goes 0 5;goes 1 2;harm 0 10;harm 1 100;owner 1 1;rice 0 2;rice 1 1;"
        + "way 0 3;sign 0 8 2;rain 0 60;rain 2 40;mend 3;wide 2;round 4;";

    /**
     * PARTS are 100000. By POND 0's bank POND 1 goes too, lets 2 of its 4 aside to POND 2, and POND 2, which hears
     * it, lets its 1 out. No bank: 63000 PARTS; 0's: 7000; 2's: 27000; both: 3000. MEAN is 630000.
     */
    static final String OTHER = "pond 2 2 0;pond 2 2 1;pond 9 1 0;down 0 1;aside 1 2 5;bears 1 1;goes 0 1;goes 2 3;harm 0 7;harm 1 50;"
        + "harm 2 2;owner 2 1;gate 2 0;sign 2 1 0;";

    /**
     * On TOLD: POND 0 has a CHANCE of 1 and BEARS 2, POND 1 a LEVEL of 1. RAIN 0: a bank takes none with it. RAIN 1:
     * POND 0's takes POND 1 with it. PARTS without and with banks: 4320, 480, 1080, 120; 2880, 320, 720, 80. POND 0
     * GOES in 1000 PARTS, POND 1 in 2320, MEAN is 242000.
     */
    static final String PLAN = "mend 0 4;low 1 2;widen 0 2;";

    private final List<Row> rows = new ArrayList<>();

    private Rows() {
    }

    static List<Row> all() {
        Rows all = new Rows();
        all.told();
        all.storms();
        all.parts();
        all.mending();
        all.owners();
        all.filling();
        all.signsAndYears();
        all.sets();
        all.ways();
        all.fractions();
        all.others();
        return all.rows;
    }

    private void add(int promise, String call, Row.Ask ask, long told, long other, long planned, Row.Ask wrong) {
        rows.add(Row.of(promise, call, ask, told, other, planned, wrong));
    }

    private void told() {
        add(6, "hill, PONDS", (x, h, p) -> x.hill(h, 0), 2, 3, 2, (x, h, p) -> x.hill(h, -1));
        add(6, "hill, RAINS", (x, h, p) -> x.hill(h, 1), 2, 1, 2, (x, h, p) -> x.hill(h, 5));
        add(6, "hill, ROUND", (x, h, p) -> x.hill(h, 4), 4, 1, 4, (x, h, p) -> x.hill(h, 9));
        add(6, "hill, the last STEPS", (x, h, p) -> x.hill(h, 11), 2, NONE, 2, (x, h, p) -> x.hill(h, 12));
        add(6, "hill, CHANCE", (x, h, p) -> x.hill(h, 20), 60, 100, 60, (x, h, p) -> x.hill(h, 24));
        pond("CHANCE", 0, 4, 5, 1, 1);
        pond("BEARS", 0, 3, 0, 0, 2);
        pond("LEVEL", 1, 1, 3, 2, 1);
        pond("DOWN", 1, 8, NONE, NONE, NONE);
        pond("ASIDE", 1, 9, NONE, 2, NONE);
        pond("GATE of the last one", 2, 12, -2, 0, -2);
        add(9, "STOP", (x, h, p) -> x.plan(h, p, 0), 0, 0, 3, (x, h, p) -> x.plan(h, p, 3));
        add(9, "DAYS", (x, h, p) -> x.plan(h, p, 1), 0, 0, 16, (x, h, p) -> x.plan(h, p, -1));
        add(9, "LOST", (x, h, p) -> x.plan(h, p, 2), 0, 0, 2, (x, h, p) -> x.plan(h, p, 10));
    }

    private void pond(String call, int pond, int what, long told, long other, long planned) {
        rows.add(new Row(7, call, (x, h, p) -> x.pond(h, p, pond, what), told, other, planned, -2, (x, h, p) -> x.pond(h, p, pond, 16)));
    }

    private void storms() {
        storm(0, 1, 0, 3, 3, 1);
        storm(0, 1, 1, 110, 57, 10);
        storm(0, 1, 11, 7, 4, 5);
        storm(0, 1, 21, 7, 4, 0);
        storm(0, 1, 31, 0, 0, 0);
        storm(0, 1, 32, NONE, 1, NONE);
        storm(0, 1, 22, NONE, 1, NONE);
        storm(0, 1, 40, 7, 3, 0);
        storm(1, 0, 40, 11, NONE, 0);
        storm(0, 4, 0, NONE, 4, NONE);
        twice(0, 1, 0, 2, 0, 0, 0, 2);
        twice(0, 1, 0, 0, 11, 0, 0, 5);
        twice(0, 1, 0, 0, 12, NONE, 2, NONE);
        twice(0, 1, 0, 4, 40, NONE, 2, NONE);
        twice(0, 0, 1, 0, 1, 110, NONE, 0);
    }

    private void storm(int rain, int banks, int what, long told, long other, long planned) {
        add(10, "storm by " + rain + ", " + banks + ", what " + what, (x, h, p) -> x.storm(h, p, rain, banks, what), told, other, planned,
            (x, h, p) -> x.storm(h, p, rain, 8, what));
    }

    private void twice(int rain, int banks, int next, int others, int what, long told, long other, long planned) {
        add(39, "twice by " + rain + ", " + banks + ", " + next + ", " + others + ", what " + what,
            (x, h, p) -> x.twice(h, p, rain, banks, next, others, what), told, other, planned,
            (x, h, p) -> x.twice(h, p, rain, banks, next, 8, what));
    }

    private void parts() {
        add(11, "LIKELY of 0", (x, h, p) -> x.likely(h, p, 0), 7000, 10000, 1000, (x, h, p) -> x.likely(h, p, 3));
        add(11, "LIKELY of 1", (x, h, p) -> x.likely(h, p, 1), 7600, 10000, 2320, (x, h, p) -> x.likely(h, p, -2));
        add(11, "all PARTS", (x, h, p) -> x.likely(h, p, NONE), 10000, 100000, 10000, (x, h, p) -> x.likely(h, p, 9));
        add(12, "MEAN", (x, h, p) -> x.mean(h, p, NONE), 830000, 630000, 242000, (x, h, p) -> x.mean(h, p, 4));
        add(12, "MEAN of OWNER 0", (x, h, p) -> x.mean(h, p, 0), 70000, 570000, 10000, (x, h, p) -> x.mean(h, p, -2));
        add(12, "MEAN of OWNER 3", (x, h, p) -> x.mean(h, p, 3), 0, 0, 0, (x, h, p) -> x.mean(h, p, 5));
        add(13, "ROWS", (x, h, p) -> x.rows(h, p, false), 3, 0, 0, (x, h, p) -> x.rows(2, p, false));
        add(13, "PARTS of ROWS", (x, h, p) -> x.rows(h, p, true), 7000, 63000, 7200, (x, h, p) -> x.rows(h, 3, true));
        add(14, "BRINGS 1", (x, h, p) -> x.brings(h, p, 0, 1), 1, 1, 2, (x, h, p) -> x.brings(h, p, 2, 1));
        add(14, "BRINGS 1 by RAIN 1", (x, h, p) -> x.brings(h, p, 1, 1), 0, NONE, 1, (x, h, p) -> x.brings(h, p, 1, 3));
        add(36, "RAIN of WORST", (x, h, p) -> x.worst(h, p, 0), 0, 0, 0, (x, h, p) -> x.worst(h, p, 4));
        add(36, "banks of WORST", (x, h, p) -> x.worst(h, p, 1), 1, 5, 3, (x, h, p) -> x.worst(h, p, -1));
        add(36, "HARM of WORST", (x, h, p) -> x.worst(h, p, 2), 110, 59, 110, (x, h, p) -> x.worst(h, p, 10));
        add(36, "PARTS of WORST", (x, h, p) -> x.worst(h, p, 3), 2400, 3000, 120, (x, h, p) -> x.worst(h, p, 5));
        add(37, "FLOOD", (x, h, p) -> x.flood(h, p), 11, 5, 9, (x, h, p) -> x.flood(2, p));
    }

    private void mending() {
        mend(3, 21, 3, 1, 3);
        mend(3, 20, 1, 1, 3);
        mend(3, 14, 2, 1, 3);
        mend(3, 8, 2, 1, 2);
        mend(3, 5, 0, 1, 1);
        mend(3, 0, 0, 0, 0);
        add(17, "mended, 0", (x, h, p) -> x.mended(h, p, 1), 560000, 60000, 200000, (x, h, p) -> x.mended(h, p, 8));
        add(17, "mended, 1", (x, h, p) -> x.mended(h, p, 2), 770000, 630000, 50000, (x, h, p) -> x.mended(h, p, -1));
        add(17, "mended, both", (x, h, p) -> x.mended(h, p, 3), 440000, 60000, 0, (x, h, p) -> x.mended(h, p, 512));
        spend(100, 0, 0, 0);
        spend(93, 6, 1, 3);
        spend(92, 15, 1, 3);
        spend(68, 15, 1, 6);
        spend(67, 21, 1, 6);
        spend(53, NONE, 1, 6);
        spend(0, NONE, NONE, 9);
    }

    private void mend(int ponds, int days, long told, long other, long planned) {
        add(15, "BEST for " + days, (x, h, p) -> x.best(h, p, ponds, days), told, other, planned, (x, h, p) -> x.best(h, p, ponds, 10000));
        add(16, "STEP by STEP for " + days, (x, h, p) -> x.steps(h, p, ponds, days), told, other, planned, (x, h, p) -> x.steps(h, p, 8, days));
    }

    private void spend(int m, long told, long other, long planned) {
        add(41, "SPEND to " + m, (x, h, p) -> x.spend(h, p, 3, m), told, other, planned, (x, h, p) -> x.spend(h, p, 3, 101));
    }

    private void owners() {
        add(18, "ONE", (x, h, p) -> x.one(h, p, false), 1, 0, 1, (x, h, p) -> x.one(h, -2, false));
        add(18, "MEAN with ONE", (x, h, p) -> x.one(h, p, true), 70000, 60000, 10000, (x, h, p) -> x.one(-1, p, true));
        add(19, "LOW of 0", (x, h, p) -> x.low(h, p, 0), 2, 1, 0, (x, h, p) -> x.low(h, p, 3));
        add(20, "HELPS of 0 for 1", (x, h, p) -> x.helps(h, p, 0, 1), 240000, 0, 32000, (x, h, p) -> x.helps(h, p, 4, 1));
        add(20, "HELPS of 1 for himself", (x, h, p) -> x.helps(h, p, 1, 1), 60000, 60000, 192000, (x, h, p) -> x.helps(h, p, 1, 4));
        add(20, "HELPS of 3 for 0", (x, h, p) -> x.helps(h, p, 3, 0), 0, 0, 0, (x, h, p) -> x.helps(h, p, 3, -1));
        add(21, "ALONE of 0", (x, h, p) -> x.alone(h, p, 0), 70000, 570000, 10000, (x, h, p) -> x.alone(h, p, -1));
        add(21, "ALONE of 1", (x, h, p) -> x.alone(h, p, 1), 520000, 60000, 200000, (x, h, p) -> x.alone(h, p, 4));
        hear(1, 0, 240000, 500000, 0);
        hear(1, 3, 240000, 0, 0);
        hear(1, 4, 0, 0, 0);
        hear(0, 0, 0, 0, 0);
        add(31, "WEIGHS", (x, h, p) -> x.weighs(h, p), 0, 0, 1, (x, h, p) -> x.weighs(h, 3));
    }

    private void hear(int pond, int m, long told, long other, long planned) {
        rows.add(new Row(22, "HEAR of " + pond + " by " + m, (x, h, p) -> x.hear(h, p, pond, m), told, other, planned, Long.MIN_VALUE,
            (x, h, p) -> x.hear(h, p, pond, 100)));
    }

    /** By 0 STEPS TOLD has 650000, and OTHER 630000, whatever is filled; with the PLAN 210000, or 290000 with POND 1 full. */
    private void filling() {
        add(23, "MAY of ORDER", (x, h, p) -> x.may(h, p, 3, false), 1300000, 1260000, 500000, (x, h, p) -> x.may(h, p, 0, false));
        add(23, "MAY of FIRST", (x, h, p) -> x.may(h, p, 3, true), 1300000, 1260000, 580000, (x, h, p) -> x.may(h, p, 8, true));
        add(23, "MAY of one", (x, h, p) -> x.may(h, p, 2, true), 650000, 630000, 290000, (x, h, p) -> x.may(h, p, 31, true));
        add(24, "ORDER, the first", (x, h, p) -> x.order(h, p, 3, 0), 0, 0, 0, (x, h, p) -> x.order(h, p, 3, 2));
        add(24, "ORDER, the second", (x, h, p) -> x.order(h, p, 3, 1), 1, 1, 1, (x, h, p) -> x.order(h, p, 3, -1));
        add(24, "ORDER with the last one", (x, h, p) -> x.order(h, p, 6, 1), NONE, 2, NONE, (x, h, p) -> x.order(h, p, 0, 0));
    }

    /** What banks go is told above; the numbers drawn were worked out apart from the class. */
    private void signsAndYears() {
        add(25, "THINK, above", (x, h, p) -> x.think(h, p, 0, false), 4, 0, 4, (x, h, p) -> x.think(h, p, 3, false));
        add(25, "THINK, below", (x, h, p) -> x.think(h, p, 0, true), 5, 1, 13, (x, h, p) -> x.think(h, p, -1, true));
        add(26, "NOW", (x, h, p) -> x.now(h, p), 0, 2, 0, (x, h, p) -> x.now(h, -2));
        years(7, 5, 0, 440, 6, 110);
        years(7, 5, 1, 4, 3, 2);
        years(7, 20, 2, 3, 3, 1);
        years(7, 20, 10, 16, 3, 4);
        years(-3, 99, 0, 7560, 632, 2700);
        years(-3, 99, 11, 69, 10, 26);
        years(-3, 99, 12, NONE, 31, NONE);
        years(1, 1, 0, 0, 0, 0);
    }

    private void years(int seed, int n, int what, long told, long other, long planned) {
        add(27, n + " YEARS by " + seed + ", what " + what, (x, h, p) -> x.years(h, p, seed, n, what), told, other, planned,
            (x, h, p) -> x.years(h, p, seed, n == 1 ? 0 : 100, what));
    }

    private void sets() {
        add(28, "SPARED", (x, h, p) -> x.spared(h, p, 0), 3, 6, 4, (x, h, p) -> x.spared(h, p, 2));
        add(28, "SPARED by RAIN 1", (x, h, p) -> x.spared(h, p, 1), 1, NONE, 3, (x, h, p) -> x.spared(h, p, -1));
        add(29, "DEEP", (x, h, p) -> x.deep(h, p), 2, 3, 2, (x, h, p) -> x.deep(2, p));
        add(30, "SAFE", (x, h, p) -> x.safe(h, p), 0, 1, 2, (x, h, p) -> x.safe(h, 3));
    }

    private void ways() {
        add(32, "UPON 1", (x, h, p) -> x.upon(h, p, 1, false), 1, 1, 1, (x, h, p) -> x.upon(h, p, 3, false));
        add(32, "BELOW 0", (x, h, p) -> x.upon(h, p, 0, true), 2, 6, 2, (x, h, p) -> x.upon(h, p, -1, true));
        add(33, "RUNS of 1", (x, h, p) -> x.runs(h, p, 1), 1, 2, 3, (x, h, p) -> x.runs(h, p, 3));
        add(33, "RUNS of 2", (x, h, p) -> x.runs(h, p, 2), NONE, NONE, NONE, (x, h, p) -> x.runs(h, p, -1));
        add(38, "AROUND, the first", (x, h, p) -> x.around(h, p, false), NONE, 0, NONE, (x, h, p) -> x.around(2, p, false));
        add(38, "AROUND, the second", (x, h, p) -> x.around(h, p, true), NONE, 2, NONE, (x, h, p) -> x.around(h, 3, true));
    }

    private void fractions() {
        add(34, "JOINT", (x, h, p) -> x.joint(h, p, 0, 1), 7000, 10000, 520, (x, h, p) -> x.joint(h, p, 0, 3));
        add(34, "JOINT of one", (x, h, p) -> x.joint(h, p, 1, 1), 7600, 10000, 2320, (x, h, p) -> x.joint(h, p, -1, 1));
        add(35, "GIVEN 1, above", (x, h, p) -> x.given(h, p, 1, 0, false), 35, 1, 13, (x, h, p) -> x.given(h, p, 1, 3, false));
        add(35, "GIVEN 1, below", (x, h, p) -> x.given(h, p, 1, 0, true), 38, 1, 58, (x, h, p) -> x.given(h, p, -1, 0, true));
        add(35, "GIVEN 0, below", (x, h, p) -> x.given(h, p, 0, 1, true), 1, 1, 25, (x, h, p) -> x.given(h, p, 3, 1, true));
    }

    private void others() {
        add(40, "BETTER than without", (x, h, p) -> x.better(h, p, NONE), 2, 2, 0, (x, h, p) -> x.better(h, p, -2));
        add(40, "BETTER without", (x, h, p) -> x.better(h, NONE, p), 2, 2, 1, (x, h, p) -> x.better(h, 3, p));
        add(40, "BETTER than itself", (x, h, p) -> x.better(h, p, p), 2, 2, 2, (x, h, p) -> x.better(2, p, p));
    }
}
