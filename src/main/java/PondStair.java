import java.util.Arrays;

/** Hills of ponds, plans of works on them, and what storms do there; ../shared/DOC.md tells it all. */
public final class PondStair {
    public static final int NONE = -1;

    private static final int NO_SUCH = -2;

    private static final int TAPE = 600;
    private static final int FEED = 20;
    private static final int HILLS = 2;
    private static final int PLANS = 3;
    private static final int IMAGES = 3;
    private static final int PONDS = 9;
    private static final int SETS = 512;
    private static final int RAINS = 4;
    private static final int WORKS = 12;
    private static final int OWNERS = 4;
    private static final int MOST_MENDED = 5;
    private static final int MOST_FILLED = 4;
    private static final int MOST_DAYS = 9999;
    private static final int MOST_STEPS = 9;
    private static final int MOST_GATE = 99;
    private static final int MOST_YEARS = 99;
    private static final int MOST_BEARS = 24;
    private static final int WHOLE = 10;
    private static final int HUNDRED = 100;

    // What a POND has, by the numbers under which pond() tells it.
    private static final int HOLDS = 0;
    private static final int LEVEL = 1;
    private static final int TAKE = 2;
    private static final int BEARS = 3;
    private static final int CHANCE = 4;
    private static final int HARM = 5;
    private static final int OWNER = 6;
    private static final int RICE = 7;
    private static final int DOWN = 8;
    private static final int ASIDE = 9;
    private static final int WAY = 11;
    private static final int GATE = 12;
    private static final int SIGN_TRUE = 13;
    private static final int SIGN_FALSE = 14;
    private static final int OUT = 15;
    private static final int COLUMNS = 16;

    // What a WORK is, by the numbers under which work() tells it.
    private static final int WORK_MEND = 0;
    private static final int WORK_LOW = 1;
    private static final int WORK_WIDEN = 2;
    private static final int WORK_ROUND = 3;

    private final Told told = new Told();
    private final Told[] images = new Told[IMAGES];
    private final boolean[] taken = new boolean[IMAGES];
    private final Reader reader = new Reader();
    private final Site site = new Site();
    private final Works nothing = new Works();
    private final Storm flow = new Storm();
    private final Choice choice = new Choice();
    private final Odds odds = choice.odds;
    private final Hill trial = new Hill();

    public PondStair() {
        for (int k = 0; k < IMAGES; k++) {
            images[k] = new Told();
        }
    }

    public int feed(int a, int b, int c, int d, int e) {
        if (told.length > TAPE - FEED) {
            return NONE;
        }
        told.append(a);
        told.append(b);
        told.append(c);
        told.append(d);
        told.append(e);
        return told.length;
    }

    public int end(int n) {
        if (n < 0 || n > told.length) {
            return NONE;
        }
        told.length = n;
        return n;
    }

    public int text(int sort, int at) {
        int length = told.length;
        // The tape is taken also where no text is read.
        told.length = 0;
        told.fault = 0;
        told.place = NONE;
        int number = told.numberFor(sort, at);
        if (number == NONE) {
            return NO_SUCH;
        }
        reader.read(told.tape, length, sort);
        told.fault = reader.fault;
        told.place = reader.place;
        if (reader.fault != 0) {
            return NONE;
        }
        told.keep(sort, number, reader);
        return number;
    }

    public int fault(int what) {
        switch (what) {
            case 0: return told.fault;
            case 1: return told.place;
            default: return NONE;
        }
    }

    public int hill(int hill, int what) {
        return told.hasHill(hill) ? told.hill[hill].told(what) : NONE;
    }

    public int pond(int hill, int plan, int pond, int what) {
        if (!lays(hill, plan) || !site.ground.has(pond) || what < 0 || what >= COLUMNS) {
            return NO_SUCH;
        }
        return site.ground.of(pond, what);
    }

    public int work(int plan, int work, int what) {
        return told.hasPlan(plan) ? told.works[plan].told(work, what) : NO_SUCH;
    }

    public int plan(int hill, int plan, int what) {
        if (!lays(hill, plan)) {
            return NONE;
        }
        switch (what) {
            case 0: return site.stop;
            case 1: return site.days;
            case 2: return site.lost;
            default: return NONE;
        }
    }

    public int storm(int hill, int plan, int rain, int banks, int what) {
        if (!lays(hill, plan) || !site.ground.hasStorm(rain, banks)) {
            return NONE;
        }
        flow.run(site.ground, site.ground.stepsOf(rain), banks, NONE);
        return flow.told(what);
    }

    public long likely(int hill, int plan, int pond) {
        if (!looks(hill, plan) || pond != NONE && !site.ground.has(pond)) {
            return NONE;
        }
        return odds.partsOf(bit(pond));
    }

    public long mean(int hill, int plan, int owner) {
        if (!looks(hill, plan) || owner != NONE && !isOwner(owner)) {
            return NONE;
        }
        return odds.meanOf(owner == NONE ? site.ground.all() : site.ground.ownedBy(owner));
    }

    public long rows(int hill, int plan, boolean parts) {
        if (!looks(hill, plan)) {
            return NONE;
        }
        int set = odds.likeliest();
        return parts ? odds.together[set] : set;
    }

    public int brings(int hill, int plan, int rain, int pond) {
        if (!lays(hill, plan) || !site.ground.hasRain(rain) || !site.ground.has(pond)) {
            return NONE;
        }
        int fewest = NONE;
        for (int banks = 0; banks <= site.ground.all(); banks++) {
            flow.run(site.ground, site.ground.stepsOf(rain), banks, NONE);
            if (isIn(flow.went, pond) && (fewest == NONE || Integer.bitCount(banks) < Integer.bitCount(fewest))) {
                fewest = banks;
            }
        }
        return fewest;
    }

    public int best(int hill, int plan, int ponds, int days) {
        return canMend(hill, plan, ponds, days, MOST_DAYS) ? choice.bestSet(site.ground, ponds, days) : NONE;
    }

    public int steps(int hill, int plan, int ponds, int days) {
        return canMend(hill, plan, ponds, days, MOST_DAYS) ? choice.stepByStep(site.ground, ponds, days) : NONE;
    }

    public long mended(int hill, int plan, int ponds) {
        if (!looks(hill, plan) || !site.ground.hasSet(ponds)) {
            return NONE;
        }
        odds.weigh(ponds, 0);
        return odds.meanOf(site.ground.all());
    }

    public long one(int hill, int plan, boolean much) {
        if (!lays(hill, plan) || site.ground.ponds == 0) {
            return NONE;
        }
        choice.holdAll(site.ground);
        return much ? choice.least : choice.first;
    }

    public int low(int hill, int plan, int pond) {
        return hasPond(hill, plan, pond) ? choice.lowerBy(site.ground, pond) : NONE;
    }

    public long helps(int hill, int plan, int owner, int other) {
        if (!looks(hill, plan) || !isOwner(owner) || !isOwner(other)) {
            return NONE;
        }
        int harmed = site.ground.ownedBy(other);
        long before = odds.meanOf(harmed);
        odds.weigh(site.ground.ownedBy(owner), 0);
        return before - odds.meanOf(harmed);
    }

    public long alone(int hill, int plan, int owner) {
        if (!looks(hill, plan) || !isOwner(owner)) {
            return NONE;
        }
        int his = site.ground.ownedBy(owner);
        odds.weigh(site.ground.all() & ~his, 0);
        return odds.meanOf(his);
    }

    public long hear(int hill, int plan, int pond, int m) {
        if (!hasPond(hill, plan, pond) || m < 0 || m > MOST_GATE) {
            return Long.MIN_VALUE;
        }
        long before = odds.wholeMean(site.ground, NONE);
        trial.copy(site.ground);
        trial.put(pond, GATE, m);
        return before - odds.wholeMean(trial, NONE);
    }

    public long may(int hill, int plan, int ponds, boolean first) {
        if (!canFill(hill, plan, ponds)) {
            return NONE;
        }
        choice.lookAtFilled(site.ground, ponds);
        if (first) {
            return choice.downwards();
        }
        choice.findOrder();
        return choice.least;
    }

    public int order(int hill, int plan, int ponds, int k) {
        if (!canFill(hill, plan, ponds) || k < 0 || k >= Integer.bitCount(ponds)) {
            return NONE;
        }
        choice.lookAtFilled(site.ground, ponds);
        choice.findOrder();
        return choice.filledAt(k);
    }

    public int think(int hill, int plan, int pond, boolean under) {
        if (!hasPond(hill, plan, pond)) {
            return NONE;
        }
        int above = site.ground.seenAndGoes(pond);
        int below = site.ground.seen(pond);
        return (int) inLeastTerms(above, below, under);
    }

    public int now(int hill, int plan) {
        return lays(hill, plan) ? choice.mostUrgent(site.ground) : NONE;
    }

    public long years(int hill, int plan, int seed, int n, int what) {
        if (!lays(hill, plan) || n < 1 || n > MOST_YEARS) {
            return NONE;
        }
        if (what != 0 && what != 1 && what != 2 && (what < 10 || !site.ground.has(what - 10))) {
            return NONE;
        }
        return new Years(seed).tally(site.ground, flow, n, what);
    }

    public int spared(int hill, int plan, int rain) {
        if (!lays(hill, plan) || !site.ground.hasRain(rain)) {
            return NONE;
        }
        int count = 0;
        for (int banks = 0; banks <= site.ground.all(); banks++) {
            flow.run(site.ground, site.ground.stepsOf(rain), banks, NONE);
            if ((flow.went & ~banks) == 0) {
                count++;
            }
        }
        return count;
    }

    public int deep(int hill, int plan) {
        return looks(hill, plan) ? odds.mostThatWent() : NONE;
    }

    public int safe(int hill, int plan) {
        if (!lays(hill, plan)) {
            return NONE;
        }
        for (int steps = MOST_STEPS; steps >= 0; steps--) {
            flow.run(site.ground, steps, 0, NONE);
            if (flow.went == 0) {
                return steps;
            }
        }
        return NONE;
    }

    public int weighs(int hill, int plan) {
        return lays(hill, plan) ? choice.heaviest(site.ground) : NONE;
    }

    public int upon(int hill, int plan, int pond, boolean below) {
        if (!hasPond(hill, plan, pond)) {
            return NONE;
        }
        return below ? site.ground.reachedFrom(pond) : site.ground.reaching(pond);
    }

    public int runs(int hill, int plan, int pond) {
        if (!hasPond(hill, plan, pond)) {
            return NONE;
        }
        for (int steps = 0; steps <= MOST_STEPS; steps++) {
            flow.run(site.ground, steps, 0, NONE);
            if (isIn(flow.went, pond)) {
                return steps;
            }
        }
        return NONE;
    }

    public long joint(int hill, int plan, int one, int other) {
        if (!looks(hill, plan) || !site.ground.has(one) || !site.ground.has(other)) {
            return NONE;
        }
        return odds.partsOf(bit(one) | bit(other));
    }

    public long given(int hill, int plan, int one, int other, boolean under) {
        if (!looks(hill, plan) || !site.ground.has(one) || !site.ground.has(other)) {
            return NONE;
        }
        long first = odds.partsOf(bit(one));
        if (first == 0) {
            return NONE;
        }
        return inLeastTerms(odds.partsOf(bit(one) | bit(other)), first, under);
    }

    public long worst(int hill, int plan, int what) {
        return looks(hill, plan) ? odds.worstTold(what) : NONE;
    }

    public int flood(int hill, int plan) {
        return looks(hill, plan) ? odds.mostInBrook() : NONE;
    }

    public int around(int hill, int plan, boolean second) {
        if (!lays(hill, plan)) {
            return NONE;
        }
        choice.turnAround(site.ground);
        return second ? choice.second : choice.first;
    }

    public int twice(int hill, int plan, int rain, int banks, int next, int others, int what) {
        if (!lays(hill, plan) || !site.ground.hasStorm(rain, banks) || !site.ground.hasStorm(next, others)) {
            return NONE;
        }
        flow.run(site.ground, site.ground.stepsOf(rain), banks, NONE);
        trial.copy(site.ground);
        flow.leaveBehind(trial);
        flow.run(trial, trial.stepsOf(next), others, NONE);
        return flow.told(what);
    }

    public int better(int hill, int one, int other) {
        if (!lays(hill, one)) {
            return NONE;
        }
        long first = odds.wholeMean(site.ground, NONE);
        if (!lays(hill, other)) {
            return NONE;
        }
        long second = odds.wholeMean(site.ground, NONE);
        if (first == second) {
            return 2;
        }
        return first < second ? 0 : 1;
    }

    public int spend(int hill, int plan, int ponds, int m) {
        return canMend(hill, plan, ponds, m, HUNDRED) ? choice.fewestDays(site.ground, ponds, m) : NONE;
    }

    public int count(int what) {
        switch (what) {
            case 0: return told.hills;
            case 1: return told.plans;
            default: return NO_SUCH;
        }
    }

    public boolean image(int k) {
        if (k < 0 || k >= IMAGES) {
            return false;
        }
        images[k].copy(told);
        taken[k] = true;
        return true;
    }

    public boolean again(int k) {
        if (k < 0 || k >= IMAGES || !taken[k]) {
            return false;
        }
        told.copy(images[k]);
        return true;
    }

    /** Lays the PLAN on the HILL, for the call that asks; false if there is none such. */
    private boolean lays(int hill, int plan) {
        if (!told.hasHill(hill) || plan != NONE && !told.hasPlan(plan)) {
            return false;
        }
        site.lay(told.hill[hill], plan == NONE ? nothing : told.works[plan]);
        return true;
    }

    /** Lays it and runs all STORMS there that can have PARTS. */
    private boolean looks(int hill, int plan) {
        if (!lays(hill, plan)) {
            return false;
        }
        odds.look(site.ground, NONE, site.ground.weak());
        return true;
    }

    private boolean hasPond(int hill, int plan, int pond) {
        return lays(hill, plan) && site.ground.has(pond);
    }

    private boolean canMend(int hill, int plan, int ponds, int limit, int most) {
        return lays(hill, plan) && site.ground.hasSet(ponds) && Integer.bitCount(ponds) <= MOST_MENDED
            && limit >= 0 && limit <= most;
    }

    private boolean canFill(int hill, int plan, int ponds) {
        return lays(hill, plan) && site.ground.hasSet(ponds) && ponds != 0
            && Integer.bitCount(ponds) <= MOST_FILLED;
    }

    private static boolean isOwner(int owner) {
        return owner >= 0 && owner < OWNERS;
    }

    private static boolean isIn(int set, int pond) {
        return (set >> pond & 1) == 1;
    }

    /** The set of one POND; without any bit for NONE, the brook. */
    private static int bit(int pond) {
        return pond < 0 ? 0 : 1 << pond;
    }

    private static long inLeastTerms(long above, long below, boolean under) {
        if (below == 0) {
            return under ? 1 : 0;
        }
        long divisor = commonDivisor(above, below);
        return (under ? below : above) / divisor;
    }

    /** The greatest common divisor, 1 at least: of 64 bits Euclid takes less than 100 rounds. */
    private static long commonDivisor(long a, long b) {
        long greater = a;
        long lesser = b;
        for (int round = 0; round < 100 && lesser != 0; round++) {
            long rest = greater % lesser;
            greater = lesser;
            lesser = rest;
        }
        return Math.max(greater, 1);
    }

    /** All that is told to the object: what an image holds. */
    private static final class Told {
        private final byte[] tape = new byte[TAPE];
        private int length = 0;
        private int fault = 0;
        private int place = NONE;
        private final Hill[] hill = new Hill[HILLS];
        private int hills = 0;
        private final Works[] works = new Works[PLANS];
        private int plans = 0;

        Told() {
            for (int k = 0; k < HILLS; k++) {
                hill[k] = new Hill();
            }
            for (int k = 0; k < PLANS; k++) {
                works[k] = new Works();
            }
        }

        void append(int number) {
            for (int shift = 24; shift >= 0 && length < TAPE; shift -= 8) {
                tape[length] = (byte) (number >> shift);
                length++;
            }
        }

        boolean hasHill(int number) {
            return number >= 0 && number < hills;
        }

        boolean hasPlan(int number) {
            return number >= 0 && number < plans;
        }

        /** Which number a text of this sort gets; NONE if it can't be taken there. */
        int numberFor(int sort, int at) {
            if (sort != 0 && sort != 1) {
                return NONE;
            }
            int there = sort == 0 ? hills : plans;
            int most = sort == 0 ? HILLS : PLANS;
            if (at == NONE) {
                return there < most ? there : NONE;
            }
            return at >= 0 && at < there ? at : NONE;
        }

        void keep(int sort, int number, Reader reader) {
            if (sort == 0) {
                hill[number].copy(reader.hill);
                hills = Math.max(hills, number + 1);
            } else {
                works[number].copy(reader.works);
                plans = Math.max(plans, number + 1);
            }
        }

        void copy(Told from) {
            System.arraycopy(from.tape, 0, tape, 0, TAPE);
            length = from.length;
            fault = from.fault;
            place = from.place;
            hills = from.hills;
            plans = from.plans;
            for (int k = 0; k < HILLS; k++) {
                hill[k].copy(from.hill[k]);
            }
            for (int k = 0; k < PLANS; k++) {
                works[k].copy(from.works[k]);
            }
        }
    }

    /** A HILL as its text tells it, or as a PLAN makes it. */
    private static final class Hill {
        private int ponds = 0;
        private final int[] row = new int[PONDS * COLUMNS];
        private int rains = 0;
        private final int[] rainSteps = new int[RAINS];
        private final int[] rainChance = new int[RAINS];
        /** Days of mend, wide, round, in this order. */
        private final int[] days = new int[3];

        void clear() {
            ponds = 0;
            rains = 0;
            Arrays.fill(days, 1);
        }

        void copy(Hill from) {
            ponds = from.ponds;
            rains = from.rains;
            System.arraycopy(from.row, 0, row, 0, row.length);
            System.arraycopy(from.rainSteps, 0, rainSteps, 0, RAINS);
            System.arraycopy(from.rainChance, 0, rainChance, 0, RAINS);
            System.arraycopy(from.days, 0, days, 0, days.length);
        }

        boolean addPond(int holds, int level, int take) {
            if (ponds >= PONDS) {
                return false;
            }
            int pond = ponds;
            ponds++;
            Arrays.fill(row, pond * COLUMNS, pond * COLUMNS + COLUMNS, 0);
            put(pond, HOLDS, holds);
            put(pond, LEVEL, level);
            put(pond, TAKE, take);
            put(pond, DOWN, NONE);
            put(pond, ASIDE, NONE);
            put(pond, GATE, NONE);
            return true;
        }

        boolean addRain(int steps, int chance) {
            if (rains >= RAINS) {
                return false;
            }
            rainSteps[rains] = steps;
            rainChance[rains] = chance;
            rains++;
            return true;
        }

        boolean has(int pond) {
            return pond >= 0 && pond < ponds;
        }

        boolean hasSet(int set) {
            return set >= 0 && set <= all();
        }

        boolean hasRain(int rain) {
            return rain >= 0 && rain < rains;
        }

        boolean hasStorm(int rain, int banks) {
            return hasRain(rain) && hasSet(banks);
        }

        int all() {
            return (1 << ponds) - 1;
        }

        int of(int pond, int column) {
            if (pond < 0 || pond >= PONDS || column < 0 || column >= COLUMNS) {
                return 0;
            }
            return row[pond * COLUMNS + column];
        }

        void put(int pond, int column, int value) {
            if (pond >= 0 && pond < PONDS && column >= 0 && column < COLUMNS) {
                row[pond * COLUMNS + column] = value;
            }
        }

        boolean isOut(int pond) {
            return of(pond, OUT) == 1;
        }

        void takeOut(int pond) {
            put(pond, OUT, 1);
            put(pond, LEVEL, 0);
            put(pond, HOLDS, 0);
            put(pond, CHANCE, 0);
        }

        int stepsOf(int rain) {
            return rain >= 0 && rain < rains ? rainSteps[rain] : 0;
        }

        int chanceOf(int rain) {
            return rain >= 0 && rain < rains ? rainChance[rain] : 0;
        }

        int chancesTogether() {
            int sum = 0;
            for (int rain = 0; rain < rains; rain++) {
                sum += chanceOf(rain);
            }
            return sum;
        }

        int told(int what) {
            if (what == 0) {
                return ponds;
            }
            if (what == 1) {
                return rains;
            }
            if (what >= 2 && what <= 4) {
                return days[what - 2];
            }
            if (what >= 10 && hasRain(what - 10)) {
                return stepsOf(what - 10);
            }
            return what >= 20 && hasRain(what - 20) ? chanceOf(what - 20) : NONE;
        }

        int ownedBy(int owner) {
            int set = 0;
            for (int pond = 0; pond < ponds; pond++) {
                if (of(pond, OWNER) == owner) {
                    set |= bit(pond);
                }
            }
            return set;
        }

        /** The banks that CAN go by themselves. */
        int weak() {
            int set = 0;
            for (int pond = 0; pond < ponds; pond++) {
                if (of(pond, CHANCE) > 0) {
                    set |= bit(pond);
                }
            }
            return set;
        }

        int daysToMend(int set) {
            int sum = 0;
            for (int pond = 0; pond < ponds; pond++) {
                if (isIn(set, pond)) {
                    sum += days[0] * of(pond, CHANCE);
                }
            }
            return sum;
        }

        int harmOf(int set) {
            int sum = 0;
            for (int pond = 0; pond < ponds; pond++) {
                if (isIn(set, pond)) {
                    sum += of(pond, HARM);
                }
            }
            return sum;
        }

        /** Where water of a POND goes at once. */
        int nextOf(int pond) {
            return bit(of(pond, DOWN)) | bit(of(pond, ASIDE));
        }

        int reachedFrom(int pond) {
            int set = bit(pond);
            for (int p = pond; p < ponds; p++) {
                if (isIn(set, p)) {
                    set |= nextOf(p);
                }
            }
            return set & ~bit(pond);
        }

        int reaching(int pond) {
            int set = bit(pond);
            for (int p = pond - 1; p >= 0; p--) {
                if ((nextOf(p) & set) != 0) {
                    set |= bit(p);
                }
            }
            return set & ~bit(pond);
        }

        /** In how many of 100 the bank goes and its SIGN is seen. */
        int seenAndGoes(int pond) {
            return of(pond, CHANCE) * of(pond, SIGN_TRUE);
        }

        /** In how many of 100 its SIGN is seen. */
        int seen(int pond) {
            return seenAndGoes(pond) + (WHOLE - of(pond, CHANCE)) * of(pond, SIGN_FALSE);
        }
    }

    /** The WORKS of a PLAN. */
    private static final class Works {
        private int works = 0;
        private final int[] kind = new int[WORKS];
        private final int[] where = new int[WORKS];
        private final int[] much = new int[WORKS];

        void clear() {
            works = 0;
        }

        boolean add(int newKind, int pond, int newMuch) {
            if (works >= WORKS) {
                return false;
            }
            kind[works] = newKind;
            where[works] = pond;
            much[works] = newMuch;
            works++;
            return true;
        }

        void copy(Works from) {
            works = from.works;
            System.arraycopy(from.kind, 0, kind, 0, WORKS);
            System.arraycopy(from.where, 0, where, 0, WORKS);
            System.arraycopy(from.much, 0, much, 0, WORKS);
        }

        int told(int number, int what) {
            if (number < 0 || number >= works) {
                return NO_SUCH;
            }
            switch (what) {
                case 0: return kind[number];
                case 1: return where[number];
                case 2: return much[number];
                default: return NO_SUCH;
            }
        }
    }

    /** A PLAN on a HILL: the HILL with its WORKS up to its STOP. */
    private static final class Site {
        private final Hill ground = new Hill();
        private int stop = 0;
        private int days = 0;
        private int lost = 0;

        void lay(Hill hill, Works plan) {
            ground.copy(hill);
            stop = 0;
            days = 0;
            lost = 0;
            for (int w = 0; w < plan.works; w++) {
                if (!builds(plan.kind[w], plan.where[w], plan.much[w])) {
                    return;
                }
                stop++;
            }
        }

        private boolean builds(int kind, int pond, int much) {
            if (!ground.has(pond) || ground.isOut(pond)) {
                return false;
            }
            switch (kind) {
                case WORK_MEND: return mends(pond, much);
                case WORK_LOW: return lowers(pond, much);
                case WORK_WIDEN: return widens(pond, much);
                case WORK_ROUND: return leads(pond, much);
                default: break;
            }
            lost += ground.of(pond, RICE) * ground.of(pond, LEVEL);
            ground.takeOut(pond);
            return true;
        }

        private boolean mends(int pond, int much) {
            if (ground.of(pond, CHANCE) < much) {
                return false;
            }
            ground.put(pond, CHANCE, ground.of(pond, CHANCE) - much);
            days += ground.days[0] * much;
            return true;
        }

        private boolean lowers(int pond, int much) {
            if (ground.of(pond, LEVEL) < much) {
                return false;
            }
            ground.put(pond, LEVEL, ground.of(pond, LEVEL) - much);
            lost += ground.of(pond, RICE) * much;
            return true;
        }

        private boolean widens(int pond, int much) {
            if (ground.of(pond, BEARS) + much > MOST_BEARS) {
                return false;
            }
            ground.put(pond, BEARS, ground.of(pond, BEARS) + much);
            days += ground.days[1] * much;
            return true;
        }

        private boolean leads(int pond, int to) {
            if (!ground.has(to) || to <= pond) {
                return false;
            }
            ground.put(pond, DOWN, to);
            days += ground.days[2];
            return true;
        }
    }

    /** One STORM, POND by POND from above. */
    private static final class Storm {
        private int ponds = 0;
        private int went = 0;
        private int harm = 0;
        private int heard = 0;
        private int brook = 0;
        private final int[] water = new int[PONDS];
        private final int[] left = new int[PONDS];

        /** The keeper is the POND that holds all that comes, NONE but for one(). */
        void run(Hill hill, int steps, int banks, int keeper) {
            ponds = hill.ponds;
            went = 0;
            heard = 0;
            brook = 0;
            Arrays.fill(water, 0);
            for (int pond = 0; pond < ponds && pond < PONDS; pond++) {
                boolean hears = hears(hill, pond);
                water[pond] += steps * hill.of(pond, TAKE) + (hears ? 0 : hill.of(pond, LEVEL));
                if (hears) {
                    heard |= bit(pond);
                }
                if (pond != keeper && goes(hill, pond, banks)) {
                    went |= bit(pond);
                }
                left[pond] = leaving(hill, pond, pond == keeper) + (hears ? hill.of(pond, LEVEL) : 0);
                pass(hill, pond);
            }
            harm = hill.harmOf(went);
        }

        private boolean hears(Hill hill, int pond) {
            int gate = hill.of(pond, GATE);
            if (gate == NONE || went == 0) {
                return false;
            }
            for (int p = 0; p < pond; p++) {
                boolean leadsHere = hill.of(p, DOWN) == pond || hill.of(p, ASIDE) == pond;
                if (leadsHere && isIn(went, p) && hill.of(p, WAY) >= gate) {
                    return true;
                }
            }
            return false;
        }

        private boolean goes(Hill hill, int pond, int banks) {
            if (hill.of(pond, OUT) == 1) {
                return false;
            }
            return isIn(banks, pond) || water[pond] - hill.of(pond, HOLDS) > hill.of(pond, BEARS);
        }

        private int leaving(Hill hill, int pond, boolean keeps) {
            if (keeps) {
                return 0;
            }
            if (isIn(went, pond) || hill.of(pond, OUT) == 1) {
                return water[pond];
            }
            return Math.max(0, water[pond] - hill.of(pond, HOLDS));
        }

        private void pass(Hill hill, int pond) {
            int aside = hill.of(pond, ASIDE);
            int down = hill.of(pond, DOWN);
            int turned = 0;
            if (hill.has(aside)) {
                turned = left[pond] * hill.of(pond, ASIDE + 1) / WHOLE;
                water[aside] += turned;
            }
            if (hill.has(down)) {
                water[down] += left[pond] - turned;
            } else {
                brook += left[pond] - turned;
            }
        }

        int told(int what) {
            switch (what) {
                case 0: return went;
                case 1: return harm;
                case 40: return brook;
                default: return toldOfPond(what / 10, what % 10);
            }
        }

        private int toldOfPond(int row, int pond) {
            if (pond < 0 || pond >= ponds) {
                return NONE;
            }
            switch (row) {
                case 1: return water[pond];
                case 2: return left[pond];
                case 3: return heard >> pond & 1;
                default: return NONE;
            }
        }

        /** Makes of the HILL on which this STORM was what the STORM leaves of it. */
        void leaveBehind(Hill hill) {
            for (int pond = 0; pond < ponds && pond < PONDS; pond++) {
                if (isIn(went, pond)) {
                    hill.takeOut(pond);
                } else if (!hill.isOut(pond)) {
                    hill.put(pond, LEVEL, Math.min(water[pond], hill.of(pond, HOLDS)));
                }
            }
        }
    }

    /** All STORMS on a HILL with their PARTS. */
    private static final class Odds {
        private final Storm flow = new Storm();
        private final Hill hill = new Hill();
        /** What went, by RAIN and banks: kept so that other CHANCES need no STORM again. */
        private final int[] went = new int[RAINS * SETS];
        private final int[] harm = new int[SETS];
        private final long[] weight = new long[SETS];
        private final long[] together = new long[SETS];

        /** Banks that can't go have no PARTS and need no STORM: mayGo has all others. */
        void look(Hill ground, int keeper, int mayGo) {
            hill.copy(ground);
            for (int set = 0; set <= hill.all() && set < SETS; set++) {
                harm[set] = hill.harmOf(set);
            }
            for (int rain = 0; rain < hill.rains && rain < RAINS; rain++) {
                for (int banks = 0; banks <= hill.all() && banks < SETS; banks++) {
                    if ((banks & ~mayGo) == 0) {
                        flow.run(hill, hill.stepsOf(rain), banks, keeper);
                        went[rain * SETS + banks] = flow.went;
                    }
                }
            }
            weigh(0, 0);
        }

        /** PARTS of banks, without the RAIN's, if some were mended to 0 and some weaker by 1 of 10. */
        void weigh(int mended, int weaker) {
            weight[0] = 1;
            for (int pond = 0; pond < hill.ponds && pond < PONDS; pond++) {
                int chance = isIn(mended, pond) ? 0 : hill.of(pond, CHANCE) + (weaker >> pond & 1);
                int bit = bit(pond);
                for (int set = 0; set < bit; set++) {
                    weight[set | bit] = weight[set] * chance;
                    weight[set] *= WHOLE - chance;
                }
            }
        }

        private long parts(int rain, int banks) {
            return isStorm(rain, banks) ? weight[banks] * hill.chanceOf(rain) : 0;
        }

        private int wentBy(int rain, int banks) {
            return isStorm(rain, banks) ? went[rain * SETS + banks] : 0;
        }

        private static boolean isStorm(int rain, int banks) {
            return rain >= 0 && rain < RAINS && banks >= 0 && banks < SETS;
        }

        long wholeMean(Hill ground, int keeper) {
            look(ground, keeper, ground.weak());
            return meanOf(hill.all());
        }

        long meanOf(int counted) {
            long sum = 0;
            for (int rain = 0; rain < hill.rains; rain++) {
                for (int banks = 0; banks <= hill.all(); banks++) {
                    if (parts(rain, banks) > 0) {
                        sum += parts(rain, banks) * harm[wentBy(rain, banks) & counted];
                    }
                }
            }
            return sum;
        }

        /** In how many PARTS all PONDS of a set GO. */
        long partsOf(int set) {
            long sum = 0;
            for (int rain = 0; rain < hill.rains; rain++) {
                for (int banks = 0; banks <= hill.all(); banks++) {
                    if (parts(rain, banks) > 0 && (wentBy(rain, banks) & set) == set) {
                        sum += parts(rain, banks);
                    }
                }
            }
            return sum;
        }

        int likeliest() {
            Arrays.fill(together, 0);
            for (int rain = 0; rain < hill.rains; rain++) {
                for (int banks = 0; banks <= hill.all(); banks++) {
                    if (parts(rain, banks) > 0) {
                        together[wentBy(rain, banks)] += parts(rain, banks);
                    }
                }
            }
            int most = 0;
            for (int set = 1; set <= hill.all(); set++) {
                if (together[set] > together[most]) {
                    most = set;
                }
            }
            return most;
        }

        /** Of every RAIN, also of one without a CHANCE. */
        int mostThatWent() {
            int most = 0;
            int weak = hill.weak();
            for (int rain = 0; rain < hill.rains; rain++) {
                for (int banks = 0; banks <= hill.all(); banks++) {
                    if ((banks & ~weak) == 0) {
                        most = Math.max(most, Integer.bitCount(wentBy(rain, banks)));
                    }
                }
            }
            return most;
        }

        long worstTold(int what) {
            int worstRain = NONE;
            int worstBanks = 0;
            int most = NONE;
            for (int rain = 0; rain < hill.rains; rain++) {
                for (int banks = 0; banks <= hill.all(); banks++) {
                    if (parts(rain, banks) > 0 && harm[wentBy(rain, banks)] > most) {
                        most = harm[wentBy(rain, banks)];
                        worstRain = rain;
                        worstBanks = banks;
                    }
                }
            }
            switch (what) {
                case 0: return worstRain;
                case 1: return worstBanks;
                case 2: return most;
                case 3: return worstRain == NONE ? NONE : parts(worstRain, worstBanks);
                default: return NONE;
            }
        }

        int mostInBrook() {
            int most = 0;
            for (int rain = 0; rain < hill.rains; rain++) {
                for (int banks = 0; banks <= hill.all(); banks++) {
                    if (parts(rain, banks) > 0) {
                        flow.run(hill, hill.stepsOf(rain), banks, NONE);
                        most = Math.max(most, flow.brook);
                    }
                }
            }
            return most;
        }
    }

    /** What is best to do on a HILL. */
    private static final class Choice {
        private final Odds odds = new Odds();
        private final Hill trial = new Hill();
        private int first = NONE;
        private int second = NONE;
        private long least = 0;
        private int filling = 0;
        private final int[] toFill = new int[MOST_FILLED];
        private final int[] order = new int[MOST_FILLED];
        private final int[] tried = new int[MOST_FILLED];
        /** MEAN by which of the PONDS to fill (bits by their place in toFill) are full. */
        private final long[] filledMean = new long[1 << MOST_FILLED];

        private long meanMended(int set) {
            odds.weigh(set, 0);
            return odds.meanOf(odds.hill.all());
        }

        int bestSet(Hill hill, int ponds, int days) {
            odds.look(hill, NONE, hill.weak());
            int best = 0;
            least = meanMended(0);
            for (int set = 1; set <= ponds; set++) {
                int cost = hill.daysToMend(set);
                if ((set & ~ponds) == 0 && cost <= days) {
                    long mean = meanMended(set);
                    if (mean < least || mean == least && cost < hill.daysToMend(best)) {
                        least = mean;
                        best = set;
                    }
                }
            }
            return best;
        }

        int fewestDays(Hill hill, int ponds, int m) {
            odds.look(hill, NONE, hill.weak());
            long limit = meanMended(0) * m;
            int fewest = NONE;
            for (int set = 0; set <= ponds; set++) {
                int cost = hill.daysToMend(set);
                if ((set & ~ponds) == 0 && (fewest == NONE || cost < fewest) && meanMended(set) * HUNDRED <= limit) {
                    fewest = cost;
                }
            }
            return fewest;
        }

        int stepByStep(Hill hill, int ponds, int days) {
            odds.look(hill, NONE, hill.weak());
            int mended = 0;
            int left = days;
            for (int step = 0; step < MOST_MENDED; step++) {
                int pond = nextStep(hill, ponds & ~mended, mended, left);
                if (pond == NONE) {
                    return mended;
                }
                mended |= bit(pond);
                left -= hill.daysToMend(bit(pond));
            }
            return mended;
        }

        private int nextStep(Hill hill, int ponds, int mended, int days) {
            long now = meanMended(mended);
            int chosen = NONE;
            long fall = 0;
            long cost = 0;
            for (int pond = 0; pond < hill.ponds; pond++) {
                int price = hill.daysToMend(bit(pond));
                if (isIn(ponds, pond) && hill.of(pond, CHANCE) > 0 && price <= days) {
                    long less = now - meanMended(mended | bit(pond));
                    if (less > 0 && (chosen == NONE || isBetterBuy(less, price, fall, cost))) {
                        chosen = pond;
                        fall = less;
                        cost = price;
                    }
                }
            }
            return chosen;
        }

        /** By days as fractions; with a MEND of 0 no POND costs any, and the fall alone decides. */
        private static boolean isBetterBuy(long less, long price, long fall, long cost) {
            return less * Math.max(cost, 1) > fall * Math.max(price, 1);
        }

        void holdAll(Hill hill) {
            first = NONE;
            least = 0;
            for (int pond = 0; pond < hill.ponds; pond++) {
                long mean = odds.wholeMean(hill, pond);
                if (first == NONE || mean < least) {
                    first = pond;
                    least = mean;
                }
            }
        }

        int lowerBy(Hill hill, int pond) {
            int level = hill.of(pond, LEVEL);
            int best = 0;
            trial.copy(hill);
            for (int by = 0; by <= level; by++) {
                trial.put(pond, LEVEL, level - by);
                odds.look(trial, NONE, trial.weak());
                long loss = odds.meanOf(hill.all()) + odds.partsOf(0) * hill.of(pond, RICE) * by;
                if (by == 0 || loss < least) {
                    best = by;
                    least = loss;
                }
            }
            return best;
        }

        int mostUrgent(Hill hill) {
            int urgent = NONE;
            int most = 0;
            int by = 1;
            for (int pond = 0; pond < hill.ponds; pond++) {
                int weight = hill.seenAndGoes(pond) * hill.of(pond, HARM);
                int seen = hill.seen(pond);
                if (weight > 0 && weight * by > most * seen) {
                    urgent = pond;
                    most = weight;
                    by = seen;
                }
            }
            return urgent;
        }

        int heaviest(Hill hill) {
            odds.look(hill, NONE, hill.all());
            long now = odds.meanOf(hill.all());
            long most = 0;
            int heaviest = NONE;
            for (int pond = 0; pond < hill.ponds; pond++) {
                if (hill.of(pond, CHANCE) < WHOLE) {
                    odds.weigh(0, bit(pond));
                    long more = odds.meanOf(hill.all()) - now;
                    if (more > most) {
                        most = more;
                        heaviest = pond;
                    }
                }
            }
            return heaviest;
        }

        void turnAround(Hill hill) {
            first = NONE;
            second = NONE;
            least = odds.wholeMean(hill, NONE);
            trial.copy(hill);
            for (int pond = 0; pond < hill.ponds; pond++) {
                for (int to = pond + 1; to < hill.ponds; to++) {
                    if (!hill.isOut(pond) && to != hill.of(pond, DOWN)) {
                        trial.put(pond, DOWN, to);
                        long mean = odds.wholeMean(trial, NONE);
                        if (mean < least) {
                            first = pond;
                            second = to;
                            least = mean;
                        }
                    }
                }
                trial.put(pond, DOWN, hill.of(pond, DOWN));
            }
        }

        /** Finds ORDER and its MAY, behind lookAtFilled(). */
        void findOrder() {
            boolean found = false;
            int codes = 1 << 2 * filling;
            for (int code = 0; code < codes; code++) {
                if (takeOrder(code)) {
                    long sum = mayOfTried();
                    if (!found || sum < least) {
                        found = true;
                        least = sum;
                        System.arraycopy(tried, 0, order, 0, MOST_FILLED);
                    }
                }
            }
        }

        void lookAtFilled(Hill hill, int ponds) {
            filling = 0;
            for (int pond = 0; pond < hill.ponds; pond++) {
                if (isIn(ponds, pond) && filling < MOST_FILLED) {
                    toFill[filling] = pond;
                    filling++;
                }
            }
            for (int filled = 1; filled < 1 << filling; filled++) {
                trial.copy(hill);
                // RAINS that all have 0 STEPS are as one of them with all their CHANCES.
                trial.rains = 0;
                trial.addRain(0, HUNDRED);
                for (int k = 0; k < filling; k++) {
                    if (isIn(filled, k)) {
                        trial.put(toFill[k], LEVEL, trial.of(toFill[k], HOLDS));
                    }
                }
                filledMean[filled] = odds.wholeMean(trial, NONE);
            }
        }

        /** Codes are orders by two bits a place, the first highest, so that they rise as orders do. */
        private boolean takeOrder(int code) {
            int seen = 0;
            for (int k = 0; k < filling; k++) {
                tried[k] = code >> 2 * (filling - 1 - k) & 3;
                seen |= bit(tried[k]);
            }
            return seen == (1 << filling) - 1;
        }

        private long mayOfTried() {
            long sum = 0;
            int filled = 0;
            for (int k = 0; k < filling; k++) {
                filled |= bit(tried[k]);
                sum += filledMean[filled];
            }
            return sum;
        }

        /** MAY of FIRST, behind lookAtFilled(). */
        long downwards() {
            for (int k = 0; k < filling; k++) {
                tried[k] = filling - 1 - k;
            }
            return mayOfTried();
        }

        int filledAt(int k) {
            return k >= 0 && k < filling ? toFill[order[k]] : NONE;
        }
    }

    /** YEARS by a SEED. */
    private static final class Years {
        private int x;

        Years(int seed) {
            x = seed;
        }

        private int draw(int n) {
            x = x * 1103515245 + 12345;
            return n > 0 ? (x >>> 16) % n : 0;
        }

        long tally(Hill hill, Storm flow, int n, int what) {
            long sum = 0;
            for (int year = 0; year < n; year++) {
                int rain = drawRain(hill);
                flow.run(hill, hill.stepsOf(rain), drawBanks(hill), NONE);
                if (what == 0) {
                    sum += flow.harm;
                } else if (what == 1) {
                    sum += flow.went == 0 ? 0 : 1;
                } else if (what == 2) {
                    sum = flow.went;
                } else {
                    sum += flow.went >> what - 10 & 1;
                }
            }
            return sum;
        }

        private int drawRain(Hill hill) {
            int drawn = draw(HUNDRED);
            int until = 0;
            for (int rain = 0; rain < hill.rains; rain++) {
                until += hill.chanceOf(rain);
                if (drawn < until) {
                    return rain;
                }
            }
            return NONE;
        }

        private int drawBanks(Hill hill) {
            int banks = 0;
            for (int pond = 0; pond < hill.ponds; pond++) {
                if (draw(WHOLE) < hill.of(pond, CHANCE)) {
                    banks |= bit(pond);
                }
            }
            return banks;
        }
    }

    /** The TOKENS of a tape, one by one. */
    private static final class Tokens {
        private static final int END = 0;
        private static final int WORD = 1;
        private static final int NUMBER = 2;
        private static final int SEMICOLON = 3;
        private static final int WRONG = 4;
        private static final int DIGITS = 3;

        private byte[] tape = new byte[0];
        private int length = 0;
        private int next = 0;
        private int kind = END;
        private int start = 0;
        private int value = 0;

        void begin(byte[] bytes, int count) {
            tape = bytes;
            length = Math.min(count, bytes.length);
            next = 0;
        }

        void advance() {
            while (next < length && isBlank(tape[next])) {
                next++;
            }
            start = next;
            if (start >= length) {
                kind = END;
            } else if (isLetter(tape[start])) {
                takeWord();
            } else if (isDigit(tape[start])) {
                takeNumber();
            } else {
                kind = tape[start] == ';' ? SEMICOLON : WRONG;
                next++;
            }
        }

        private void takeWord() {
            kind = WORD;
            while (next < length && isLetter(tape[next])) {
                next++;
            }
        }

        private void takeNumber() {
            value = 0;
            while (next < length && isDigit(tape[next])) {
                value = value * 10 + (tape[next] - '0');
                next++;
            }
            kind = next - start > DIGITS ? WRONG : NUMBER;
        }

        boolean isWord(String word) {
            if (kind != WORD || next - start != word.length()) {
                return false;
            }
            for (int k = 0; k < word.length() && start + k < length; k++) {
                if (tape[start + k] != word.charAt(k)) {
                    return false;
                }
            }
            return true;
        }

        private static boolean isBlank(int sign) {
            return sign == 10 || sign == 32;
        }

        private static boolean isLetter(int sign) {
            return sign >= 'a' && sign <= 'z';
        }

        private static boolean isDigit(int sign) {
            return sign >= '0' && sign <= '9';
        }
    }

    /** Reads a text of either sort into a HILL or WORKS of its own, and finds its FAULT. */
    private static final class Reader {
        private static final int NUMBERS = 3;

        private static final int LINE_POND = 0;
        private static final int LINE_ASIDE = 2;
        private static final int LINE_SIGN = 10;
        private static final int LINE_RAIN = 11;
        private static final int LINE_MEND = 12;
        private static final int HILL_LINES = 15;
        private static final int PLAN_LINES = 5;

        /** By line, in the order of hillWord(): how many NUMBERS, where the second one goes. */
        private static final int[] HILL_COUNT = {3, 2, 3, 2, 2, 2, 2, 2, 2, 2, 3, 2, 1, 1, 1};
        private static final int[] HILL_COLUMN = {
            NONE, DOWN, ASIDE, BEARS, CHANCE, HARM, OWNER, RICE, WAY, GATE, SIGN_TRUE, NONE, NONE, NONE, NONE
        };
        private static final int[] HILL_MOST = {
            24, 24, 9, 8, 8, 0, 8, 8, 10, 8, 24, 0, 8, 10, 0, 8, 999, 0, 8, 3, 0, 8, 99, 0,
            8, 99, 0, 8, 99, 0, 8, 10, 10, 9, 100, 0, 99, 0, 0, 99, 0, 0, 99, 0, 0
        };
        /** By line, in the order of planWord(). */
        private static final int[] PLAN_COUNT = {2, 2, 2, 2, 1};
        private static final int[] PLAN_LEAST = {0, 1, 0, 0, 1, 0, 0, 1, 0, 0, 0, 0, 0, 0, 0};
        private static final int[] PLAN_MOST = {8, 10, 0, 8, 24, 0, 8, 24, 0, 8, 8, 0, 8, 0, 0};

        private final Tokens tokens = new Tokens();
        private final Hill hill = new Hill();
        private final Works works = new Works();
        private final int[] numbers = new int[NUMBERS];
        private final int[] places = new int[NUMBERS];
        private int fault = 0;
        private int place = NONE;

        void read(byte[] tape, int length, int sort) {
            fault = 0;
            place = NONE;
            hill.clear();
            works.clear();
            tokens.begin(tape, length);
            boolean goesOn = true;
            for (int line = 0; line <= TAPE && goesOn; line++) {
                goesOn = readLine(sort);
            }
            if (sort == 0 && fault == 0) {
                closeRains();
            }
        }

        private void closeRains() {
            if (hill.rains == 0) {
                hill.addRain(0, HUNDRED);
            } else if (hill.chancesTogether() != HUNDRED) {
                remember(4, tokens.length);
            }
        }

        private boolean readLine(int sort) {
            tokens.advance();
            if (tokens.kind == Tokens.END) {
                return false;
            }
            int line = lineOf(sort);
            int first = tokens.start;
            if (line == NONE) {
                return breaksOff();
            }
            int count = sort == 0 ? HILL_COUNT[line] : PLAN_COUNT[line];
            for (int i = 0; i < count; i++) {
                tokens.advance();
                if (tokens.kind != Tokens.NUMBER) {
                    return breaksOff();
                }
                numbers[i] = tokens.value;
                places[i] = tokens.start;
            }
            tokens.advance();
            if (tokens.kind != Tokens.SEMICOLON) {
                return breaksOff();
            }
            take(sort, line, first, count);
            return true;
        }

        /** With this token no text goes on: this FAULT is ahead of all others. */
        private boolean breaksOff() {
            fault = 1;
            place = tokens.start;
            return false;
        }

        private void remember(int newFault, int newPlace) {
            if (fault == 0) {
                fault = newFault;
                place = newPlace;
            }
        }

        private int lineOf(int sort) {
            int lines = sort == 0 ? HILL_LINES : PLAN_LINES;
            for (int line = 0; line < lines; line++) {
                if (tokens.isWord(sort == 0 ? hillWord(line) : planWord(line))) {
                    return line;
                }
            }
            return NONE;
        }

        private static String hillWord(int line) {
            switch (line) {
                case 0: return "pond";
                case 1: return "down";
                case 2: return "aside";
                case 3: return "bears";
                case 4: return "goes";
                case 5: return "harm";
                case 6: return "owner";
                case 7: return "rice";
                case 8: return "way";
                case 9: return "gate";
                case 10: return "sign";
                case 11: return "rain";
                case 12: return "mend";
                case 13: return "wide";
                default: return "round";
            }
        }

        private static String planWord(int line) {
            switch (line) {
                case WORK_MEND: return "mend";
                case WORK_LOW: return "low";
                case WORK_WIDEN: return "widen";
                case WORK_ROUND: return "round";
                default: return "out";
            }
        }

        /** Takes a whole line; what is wrong in it does no harm, for behind a FAULT nothing is kept. */
        private void take(int sort, int line, int first, int count) {
            if (sort == 0 ? isFull(line) : works.works >= WORKS) {
                remember(3, first);
            }
            for (int i = 0; i < count; i++) {
                if (!(sort == 0 ? canBeInHill(line, i) : canBeInPlan(line, i))) {
                    remember(2, places[i]);
                }
            }
            if (sort == 0) {
                takeForHill(line, count);
            } else {
                works.add(line, numbers[0], count > 1 ? numbers[1] : NONE);
            }
        }

        private boolean isFull(int line) {
            return line == LINE_POND && hill.ponds >= PONDS || line == LINE_RAIN && hill.rains >= RAINS;
        }

        private boolean canBeInHill(int line, int i) {
            int number = numbers[i];
            if (number > HILL_MOST[NUMBERS * line + i]) {
                return false;
            }
            if (line == LINE_POND) {
                return i != LEVEL || number <= numbers[HOLDS];
            }
            if (line > LINE_SIGN) {
                return true;
            }
            if (i == 0) {
                return number < hill.ponds;
            }
            return i > 1 || line > LINE_ASIDE || number > numbers[0] && number < hill.ponds;
        }

        private boolean canBeInPlan(int line, int i) {
            int cell = NUMBERS * line + i;
            return numbers[i] >= PLAN_LEAST[cell] && numbers[i] <= PLAN_MOST[cell];
        }

        private void takeForHill(int line, int count) {
            if (line == LINE_POND) {
                hill.addPond(numbers[0], numbers[1], numbers[2]);
            } else if (line == LINE_RAIN) {
                hill.addRain(numbers[0], numbers[1]);
            } else if (line >= LINE_MEND) {
                hill.days[line - LINE_MEND] = numbers[0];
            } else {
                hill.put(numbers[0], HILL_COLUMN[line], numbers[1]);
                if (count == NUMBERS) {
                    hill.put(numbers[0], HILL_COLUMN[line] + 1, numbers[2]);
                }
            }
        }
    }
}
