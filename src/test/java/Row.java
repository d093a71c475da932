/**
 * A call that asks of a HILL with a PLAN, as runs of calls on one object have it: what is due on two HILLS (told,
 * then other) and on the first one with a PLAN, what it answers where it is refused, and the same call with another
 * argument that can't be.
 */
record Row(int promise, String call, Ask ask, long told, long other, long planned, long refused, Ask wrong) {
    /** Such a call, but for its HILL and PLAN. */
    interface Ask {
        long of(PondStair x, int hill, int plan);
    }

    /** One of the many that answer NONE where they are refused. */
    static Row of(int promise, String call, Ask ask, long told, long other, long planned, Ask wrong) {
        return new Row(promise, call, ask, told, other, planned, PondStair.NONE, wrong);
    }

    /** hill() alone asks of no PLAN. */
    boolean hasPlan() {
        return promise != 6;
    }
}
