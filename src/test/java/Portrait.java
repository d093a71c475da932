import java.util.ArrayList;
import java.util.List;

/**
 * All that can be seen of an object, as a row of numbers. To see the tape and the images it takes the object
 * apart: an object that was looked at is used up. It asks some 300 of the 512 calls of a full object.
 */
final class Portrait {
    private final PondStair x;
    private final List<Long> row = new ArrayList<>();

    private Portrait(PondStair x) {
        this.x = x;
    }

    static List<Long> of(PondStair x) {
        Portrait p = new Portrait(x);
        p.hillsAndPlans();
        p.tape();
        p.images();
        return p.row;
    }

    /** Without the tape, the FAULT and the images: what a text() that is refused leaves as it was. */
    static List<Long> ofHillsAndPlans(PondStair x) {
        Portrait p = new Portrait(x);
        p.hills();
        p.plans();
        return p.row;
    }

    private void see(long number) {
        row.add(number);
    }

    private void hillsAndPlans() {
        see(x.fault(0));
        see(x.fault(1));
        hills();
        plans();
    }

    private void hills() {
        see(x.count(0));
        for (int hill = 0; hill < x.count(0); hill++) {
            for (int what = 0; what < 5; what++) {
                see(x.hill(hill, what));
            }
            for (int rain = 0; rain < x.hill(hill, 1); rain++) {
                see(x.hill(hill, 10 + rain));
                see(x.hill(hill, 20 + rain));
            }
            for (int pond = 0; pond < x.hill(hill, 0); pond++) {
                for (int what = 0; what < 15; what++) {
                    see(x.pond(hill, PondStair.NONE, pond, what));
                }
            }
        }
    }

    private void plans() {
        see(x.count(1));
        for (int plan = 0; plan < x.count(1); plan++) {
            for (int work = 0; work < 12 && x.work(plan, work, 0) != -2; work++) {
                for (int what = 0; what < 3; what++) {
                    see(x.work(plan, work, what));
                }
            }
        }
    }

    /** The tape's length by what a further feed() answers, what is on it by taking it as a PLAN. */
    private void tape() {
        int length = x.feed(0, 0, 0, 0, 0) - 20;
        see(length);
        see(x.end(Math.max(length, 0)));
        see(x.text(1, x.count(1) < 3 ? PondStair.NONE : 0));
        see(x.fault(0));
        see(x.fault(1));
        see(x.work(0, 0, 1));
        see(x.work(x.count(1) - 1, 0, 1));
    }

    private void images() {
        for (int k = 0; k < 3; k++) {
            see(x.again(k) ? 1 : 0);
            see(x.count(0));
            see(x.count(1));
            see(x.fault(0));
            see(x.fault(1));
            see(x.feed(0, 0, 0, 0, 0));
            see(x.pond(0, PondStair.NONE, 0, 0));
            see(x.work(0, 0, 1));
        }
    }
}
