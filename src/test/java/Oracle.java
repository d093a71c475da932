import java.math.BigInteger;
import java.util.ArrayList;
import java.util.LinkedHashMap;
import java.util.List;
import java.util.Map;
import java.util.TreeMap;
import java.util.function.Consumer;
import java.util.function.ToLongFunction;
import java.util.regex.Matcher;
import java.util.regex.Pattern;

/**
 * The document once more, in the slowest and plainest way and by other means than the class: every
 * STORM is run anew for every question, PARTS are counted by walking through all of them.
 */
final class Oracle {
    static final int NONE = -1;

    static final class Pond {
        int holds, level, take, bears, chance, harm, owner, rice, down = -1, aside = -1, share, way, gate = -1, t, f;
        boolean out;

        Pond copy() {
            Pond p = new Pond();
            p.holds = holds; p.level = level; p.take = take; p.bears = bears; p.chance = chance; p.harm = harm;
            p.owner = owner; p.rice = rice; p.down = down; p.aside = aside; p.share = share; p.way = way;
            p.gate = gate; p.t = t; p.f = f; p.out = out;
            return p;
        }

        void takeOut() {
            out = true;
            level = 0;
            holds = 0;
            chance = 0;
        }
    }

    static final class Hill {
        final List<Pond> ponds = new ArrayList<>();
        final List<int[]> rains = new ArrayList<>();
        int mend = 1, wide = 1, round = 1;
        int stop, days, lost;

        Hill copy() {
            Hill h = new Hill();
            for (Pond p : ponds) {
                h.ponds.add(p.copy());
            }
            h.rains.addAll(rains);
            h.mend = mend; h.wide = wide; h.round = round; h.stop = stop; h.days = days; h.lost = lost;
            return h;
        }

        Hill with(Consumer<Hill> change) {
            Hill h = copy();
            change.accept(h);
            return h;
        }

        int n() {
            return ponds.size();
        }
    }

    /** What a STORM did. */
    static final class Done {
        int[] water, left, came;
        boolean[] went, heard;
        int brook, harm;

        int set() {
            int set = 0;
            for (int p = 0; p < went.length; p++) {
                set += went[p] ? 1 << p : 0;
            }
            return set;
        }
    }

    interface Visit {
        void see(int rain, int banks, long parts, Done done);
    }

    private StringBuilder tape = new StringBuilder();
    private int fault = 0;
    private int place = NONE;
    private List<Hill> hills = new ArrayList<>();
    private List<List<int[]>> plans = new ArrayList<>();
    private final Map<Integer, Object[]> images = new TreeMap<>();

    // ---- texts

    private static final Map<String, int[]> HILL_LINES = new LinkedHashMap<>();
    private static final Map<String, int[]> PLAN_LINES = new LinkedHashMap<>();
    private static final int TOLD = -10;
    private static final int UNDER = -11;
    private static final int UP_TO_FIRST = -12;

    static {
        HILL_LINES.put("pond", new int[] {24, UP_TO_FIRST, 9});
        HILL_LINES.put("down", new int[] {TOLD, UNDER});
        HILL_LINES.put("aside", new int[] {TOLD, UNDER, 10});
        HILL_LINES.put("bears", new int[] {TOLD, 24});
        HILL_LINES.put("goes", new int[] {TOLD, 10});
        HILL_LINES.put("harm", new int[] {TOLD, 999});
        HILL_LINES.put("owner", new int[] {TOLD, 3});
        HILL_LINES.put("rice", new int[] {TOLD, 99});
        HILL_LINES.put("way", new int[] {TOLD, 99});
        HILL_LINES.put("gate", new int[] {TOLD, 99});
        HILL_LINES.put("sign", new int[] {TOLD, 10, 10});
        HILL_LINES.put("rain", new int[] {9, 100});
        HILL_LINES.put("mend", new int[] {99});
        HILL_LINES.put("wide", new int[] {99});
        HILL_LINES.put("round", new int[] {99});
        PLAN_LINES.put("mend", new int[] {8, 10});
        PLAN_LINES.put("low", new int[] {8, 24});
        PLAN_LINES.put("widen", new int[] {8, 24});
        PLAN_LINES.put("round", new int[] {8, 8});
        PLAN_LINES.put("out", new int[] {8});
    }

    private static final Pattern TOKEN = Pattern.compile("[a-z]+|[0-9]+|[^ \n]", Pattern.DOTALL);

    private int[] lineFault(String text, boolean plan, Hill hill, List<int[]> works) {
        List<String> tokens = new ArrayList<>();
        List<Integer> places = new ArrayList<>();
        Matcher m = TOKEN.matcher(text);
        while (m.find()) {
            tokens.add(m.group());
            places.add(m.start());
        }
        Map<String, int[]> lines = plan ? PLAN_LINES : HILL_LINES;
        List<int[]> faults = new ArrayList<>();
        int at = 0;
        while (at < tokens.size()) {
            int[] limits = lines.get(tokens.get(at));
            if (limits == null) {
                return new int[] {1, places.get(at)};
            }
            int[] n = new int[limits.length];
            for (int k = 0; k <= n.length; k++) {
                int here = at + 1 + k;
                String token = here < tokens.size() ? tokens.get(here) : "";
                if (!(k < n.length ? token.matches("[0-9]{1,3}") : token.equals(";"))) {
                    return new int[] {1, here < tokens.size() ? places.get(here) : text.length()};
                }
                if (k < n.length) {
                    n[k] = Integer.parseInt(token);
                }
            }
            line(tokens.get(at), n, limits, places.subList(at, at + n.length + 1), plan, hill, works, faults);
            at += n.length + 2;
        }
        faults.sort((a, b) -> a[1] != b[1] ? a[1] - b[1] : a[0] - b[0]);
        if (!faults.isEmpty()) {
            return faults.get(0);
        }
        int sum = 0;
        for (int[] r : hill.rains) {
            sum += r[1];
        }
        return !hill.rains.isEmpty() && sum != 100 ? new int[] {4, text.length()} : new int[] {0, NONE};
    }

    private static void line(String word, int[] n, int[] limits, List<Integer> places, boolean plan, Hill hill,
            List<int[]> works, List<int[]> faults) {
        for (int k = 0; k < n.length; k++) {
            int most = limits[k] == TOLD || limits[k] == UNDER ? hill.n() - 1 : limits[k] == UP_TO_FIRST ? n[0] : limits[k];
            int least = limits[k] == UNDER ? n[0] + 1 : plan && k == 1 && !word.equals("round") ? 1 : 0;
            if (n[k] < least || n[k] > most) {
                faults.add(new int[] {2, places.get(k + 1)});
            }
        }
        boolean tooMany = plan ? works.size() == 12
            : word.equals("pond") ? hill.n() == 9 : word.equals("rain") && hill.rains.size() == 4;
        if (tooMany) {
            faults.add(new int[] {3, places.get(0)});
        }
        if (plan) {
            works.add(new int[] {List.copyOf(PLAN_LINES.keySet()).indexOf(word), n[0], n.length > 1 ? n[1] : NONE});
            return;
        }
        switch (word) {
            case "pond" -> {
                Pond p = new Pond();
                p.holds = n[0];
                p.level = n[1];
                p.take = n[2];
                hill.ponds.add(p);
            }
            case "rain" -> hill.rains.add(new int[] {n[0], n[1]});
            case "mend" -> hill.mend = n[0];
            case "wide" -> hill.wide = n[0];
            case "round" -> hill.round = n[0];
            default -> {
                if (n[0] < hill.n()) {
                    set(hill.ponds.get(n[0]), word, n);
                }
            }
        }
    }

    private static void set(Pond p, String word, int[] n) {
        switch (word) {
            case "down" -> p.down = n[1];
            case "aside" -> {
                p.aside = n[1];
                p.share = n[2];
            }
            case "bears" -> p.bears = n[1];
            case "goes" -> p.chance = n[1];
            case "harm" -> p.harm = n[1];
            case "owner" -> p.owner = n[1];
            case "rice" -> p.rice = n[1];
            case "way" -> p.way = n[1];
            case "gate" -> p.gate = n[1];
            default -> {
                p.t = n[1];
                p.f = n[2];
            }
        }
    }

    int feed(int a, int b, int c, int d, int e) {
        if (tape.length() + 20 > 600) {
            return NONE;
        }
        for (int number : new int[] {a, b, c, d, e}) {
            for (int k = 3; k >= 0; k--) {
                tape.append((char) (number >>> 8 * k & 255));
            }
        }
        return tape.length();
    }

    int end(int n) {
        if (n < 0 || n > tape.length()) {
            return NONE;
        }
        tape.setLength(n);
        return n;
    }

    int text(int sort, int at) {
        fault = 0;
        place = NONE;
        String text = tape.toString();
        tape.setLength(0);
        if (sort != 0 && sort != 1) {
            return -2;
        }
        int there = sort == 0 ? hills.size() : plans.size();
        if (at == NONE ? there == 2 + sort : at < 0 || at >= there) {
            return -2;
        }
        Hill hill = new Hill();
        List<int[]> works = new ArrayList<>();
        int[] f = lineFault(text, sort == 1, hill, works);
        fault = f[0];
        place = f[1];
        if (fault != 0) {
            return NONE;
        }
        if (hill.rains.isEmpty()) {
            hill.rains.add(new int[] {0, 100});
        }
        int number = at == NONE ? there : at;
        if (sort == 0) {
            hills.subList(number, Math.min(number + 1, there)).clear();
            hills.add(number, hill);
        } else {
            plans.subList(number, Math.min(number + 1, there)).clear();
            plans.add(number, works);
        }
        return number;
    }

    int fault(int what) {
        return what == 0 ? fault : what == 1 ? place : NONE;
    }

    int count(int what) {
        return what == 0 ? hills.size() : what == 1 ? plans.size() : -2;
    }

    boolean image(int k) {
        if (k < 0 || k > 2) {
            return false;
        }
        images.put(k, new Object[] {tape.toString(), fault, place, List.copyOf(hills), List.copyOf(plans)});
        return true;
    }

    @SuppressWarnings("unchecked")
    boolean again(int k) {
        Object[] image = images.get(k);
        if (image == null) {
            return false;
        }
        tape = new StringBuilder((String) image[0]);
        fault = (Integer) image[1];
        place = (Integer) image[2];
        hills = new ArrayList<>((List<Hill>) image[3]);
        plans = new ArrayList<>((List<List<int[]>>) image[4]);
        return true;
    }

    // ---- what is told

    int hill(int hill, int what) {
        if (hill < 0 || hill >= hills.size()) {
            return NONE;
        }
        Hill h = hills.get(hill);
        TreeMap<Integer, Integer> all = new TreeMap<>(Map.of(0, h.n(), 1, h.rains.size(), 2, h.mend, 3, h.wide, 4, h.round));
        for (int k = 0; k < h.rains.size(); k++) {
            all.put(10 + k, h.rains.get(k)[0]);
            all.put(20 + k, h.rains.get(k)[1]);
        }
        return all.getOrDefault(what, NONE);
    }

    /** The HILL with the PLAN, or null. */
    private Hill on(int hill, int plan) {
        if (hill < 0 || hill >= hills.size() || plan < NONE || plan >= plans.size()) {
            return null;
        }
        Hill h = hills.get(hill).copy();
        if (plan == NONE) {
            return h;
        }
        for (int[] w : plans.get(plan)) {
            if (w[1] >= h.n() || h.ponds.get(w[1]).out) {
                return h;
            }
            Pond p = h.ponds.get(w[1]);
            boolean can = switch (w[0]) {
                case 0 -> p.chance >= w[2];
                case 1 -> p.level >= w[2];
                case 2 -> p.bears + w[2] <= 24;
                case 3 -> w[2] < h.n() && w[2] > w[1];
                default -> true;
            };
            if (!can) {
                return h;
            }
            h.days += w[0] == 0 ? h.mend * w[2] : w[0] == 2 ? h.wide * w[2] : w[0] == 3 ? h.round : 0;
            h.lost += w[0] == 1 ? p.rice * w[2] : w[0] == 4 ? p.rice * p.level : 0;
            switch (w[0]) {
                case 0 -> p.chance -= w[2];
                case 1 -> p.level -= w[2];
                case 2 -> p.bears += w[2];
                case 3 -> p.down = w[2];
                default -> p.takeOut();
            }
            h.stop++;
        }
        return h;
    }

    private static boolean has(Hill h, int pond) {
        return h != null && pond >= 0 && pond < h.n();
    }

    private static boolean hasSet(Hill h, int set) {
        return h != null && set >= 0 && set < 1 << h.n();
    }

    private static boolean hasRain(Hill h, int rain) {
        return h != null && rain >= 0 && rain < h.rains.size();
    }

    int pond(int hill, int plan, int pond, int what) {
        Hill h = on(hill, plan);
        if (!has(h, pond)) {
            return -2;
        }
        Pond p = h.ponds.get(pond);
        int[] all = {p.holds, p.level, p.take, p.bears, p.chance, p.harm, p.owner, p.rice, p.down, p.aside, p.share,
            p.way, p.gate, p.t, p.f, p.out ? 1 : 0};
        return what < 0 || what > 15 ? -2 : all[what];
    }

    int work(int plan, int work, int what) {
        if (plan < 0 || plan >= plans.size() || work < 0 || work >= plans.get(plan).size() || what < 0 || what > 2) {
            return -2;
        }
        return plans.get(plan).get(work)[what];
    }

    int plan(int hill, int plan, int what) {
        Hill h = on(hill, plan);
        return h == null ? NONE : what == 0 ? h.stop : what == 1 ? h.days : what == 2 ? h.lost : NONE;
    }

    // ---- storms

    static Done run(Hill h, int steps, int banks, int keeper) {
        Done d = new Done();
        int n = h.n();
        d.water = new int[n];
        d.left = new int[n];
        d.came = new int[n];
        d.went = new boolean[n];
        d.heard = new boolean[n];
        for (int i = 0; i < n; i++) {
            Pond p = h.ponds.get(i);
            for (int u = 0; u < i; u++) {
                Pond up = h.ponds.get(u);
                boolean leadsHere = up.down == i || up.aside == i;
                d.heard[i] |= p.gate >= 0 && leadsHere && d.went[u] && up.way >= p.gate;
                int aside = up.aside < 0 ? 0 : (int) Math.floor(d.left[u] * up.share / 10.0);
                d.came[i] += (up.aside == i ? aside : 0) + (up.down == i ? d.left[u] - aside : 0);
            }
            d.water[i] = d.came[i] + steps * p.take + (d.heard[i] ? 0 : p.level);
            boolean own = (banks >> i) % 2 == 1;
            d.went[i] = !p.out && i != keeper && (own || d.water[i] > p.holds + p.bears);
            if (i == keeper) {
                d.left[i] = 0;
            } else if (p.out || d.went[i]) {
                d.left[i] = d.water[i];
            } else if (d.water[i] > p.holds) {
                d.left[i] = d.water[i] - p.holds;
            }
            d.left[i] += d.heard[i] ? p.level : 0;
            d.harm += d.went[i] ? p.harm : 0;
            if (p.down < 0) {
                d.brook += d.left[i] - (p.aside < 0 ? 0 : d.left[i] * p.share / 10);
            }
        }
        return d;
    }

    private static int told(Done d, int what) {
        if (what == 0) {
            return d.set();
        }
        if (what == 1) {
            return d.harm;
        }
        if (what == 40) {
            return d.brook;
        }
        for (int p = 0; p < d.went.length; p++) {
            if (what == 10 + p) {
                return d.water[p];
            }
            if (what == 20 + p) {
                return d.left[p];
            }
            if (what == 30 + p) {
                return d.heard[p] ? 1 : 0;
            }
        }
        return NONE;
    }

    int storm(int hill, int plan, int rain, int banks, int what) {
        Hill h = on(hill, plan);
        return hasRain(h, rain) && hasSet(h, banks) ? told(run(h, h.rains.get(rain)[0], banks, NONE), what) : NONE;
    }

    int twice(int hill, int plan, int rain, int banks, int next, int others, int what) {
        Hill h = on(hill, plan);
        if (!hasRain(h, rain) || !hasSet(h, banks) || !hasRain(h, next) || !hasSet(h, others)) {
            return NONE;
        }
        Done d = run(h, h.rains.get(rain)[0], banks, NONE);
        for (int i = 0; i < h.n(); i++) {
            Pond p = h.ponds.get(i);
            if (d.went[i]) {
                p.takeOut();
            } else if (!p.out) {
                p.level = d.water[i] > p.holds ? p.holds : d.water[i];
            }
        }
        return told(run(h, h.rains.get(next)[0], others, NONE), what);
    }

    /** Walks through all STORMS that have PARTS, by RAIN, then by banks. */
    private static void walk(Hill h, int keeper, Visit visit) {
        for (int r = 0; r < h.rains.size(); r++) {
            for (int banks = 0; banks < 1 << h.n(); banks++) {
                long parts = h.rains.get(r)[1];
                for (int p = 0; p < h.n(); p++) {
                    int c = h.ponds.get(p).chance;
                    parts *= (banks >> p & 1) == 1 ? c : 10 - c;
                }
                if (parts > 0) {
                    visit.see(r, banks, parts, run(h, h.rains.get(r)[0], banks, keeper));
                }
            }
        }
    }

    private static long sum(Hill h, int keeper, ToLongFunction<Done> counted) {
        long[] sum = new long[1];
        walk(h, keeper, (r, b, parts, d) -> sum[0] += parts * counted.applyAsLong(d));
        return sum[0];
    }

    private static long mean(Hill h) {
        return sum(h, NONE, d -> d.harm);
    }

    private static long meanOf(Hill h, int owner) {
        return sum(h, NONE, d -> {
            long harm = 0;
            for (int p = 0; p < h.n(); p++) {
                harm += d.went[p] && h.ponds.get(p).owner == owner ? h.ponds.get(p).harm : 0;
            }
            return harm;
        });
    }

    private static Hill mend(Hill h, int set) {
        return h.with(x -> {
            for (int p = 0; p < x.n(); p++) {
                if ((set >> p & 1) == 1) {
                    x.ponds.get(p).chance = 0;
                }
            }
        });
    }

    private static int days(Hill h, int set) {
        int sum = 0;
        for (int p = 0; p < h.n(); p++) {
            sum += (set >> p & 1) * h.mend * h.ponds.get(p).chance;
        }
        return sum;
    }

    private static int owned(Hill h, int owner, boolean his) {
        int set = 0;
        for (int p = 0; p < h.n(); p++) {
            set += (h.ponds.get(p).owner == owner) == his ? 1 << p : 0;
        }
        return set;
    }

    long likely(int hill, int plan, int pond) {
        Hill h = on(hill, plan);
        if (h == null || pond != NONE && !has(h, pond)) {
            return NONE;
        }
        return pond == NONE ? 100 * Math.round(Math.pow(10, h.n())) : sum(h, NONE, d -> d.went[pond] ? 1 : 0);
    }

    long mean(int hill, int plan, int owner) {
        Hill h = on(hill, plan);
        if (h == null || owner < NONE || owner > 3) {
            return NONE;
        }
        return owner == NONE ? mean(h) : meanOf(h, owner);
    }

    long rows(int hill, int plan, boolean parts) {
        Hill h = on(hill, plan);
        if (h == null) {
            return NONE;
        }
        TreeMap<Integer, Long> rows = new TreeMap<>();
        walk(h, NONE, (r, b, n, d) -> rows.merge(d.set(), n, Long::sum));
        int best = rows.firstKey();
        for (int set : rows.keySet()) {
            best = rows.get(set) > rows.get(best) ? set : best;
        }
        return parts ? rows.get(best) : best;
    }

    int brings(int hill, int plan, int rain, int pond) {
        Hill h = on(hill, plan);
        if (!hasRain(h, rain) || !has(h, pond)) {
            return NONE;
        }
        for (int size = 0; size <= h.n(); size++) {
            for (int set = 0; set < 1 << h.n(); set++) {
                if (Integer.bitCount(set) == size && run(h, h.rains.get(rain)[0], set, NONE).went[pond]) {
                    return set;
                }
            }
        }
        return NONE;
    }

    // ---- choices

    private static List<Integer> subsets(int ponds) {
        List<Integer> all = new ArrayList<>();
        for (int set = 0; set <= ponds; set++) {
            if ((set | ponds) == ponds) {
                all.add(set);
            }
        }
        return all;
    }

    int best(int hill, int plan, int ponds, int days) {
        Hill h = on(hill, plan);
        if (!hasSet(h, ponds) || Integer.bitCount(ponds) > 5 || days < 0 || days > 9999) {
            return NONE;
        }
        List<Integer> sets = subsets(ponds);
        sets.removeIf(s -> days(h, s) > days);
        Map<Integer, Long> means = new TreeMap<>();
        sets.forEach(s -> means.put(s, mean(mend(h, s))));
        sets.sort((a, b) -> !means.get(a).equals(means.get(b)) ? Long.compare(means.get(a), means.get(b))
            : days(h, a) != days(h, b) ? days(h, a) - days(h, b) : a - b);
        return sets.get(0);
    }

    int steps(int hill, int plan, int ponds, int days) {
        Hill h = on(hill, plan);
        if (!hasSet(h, ponds) || Integer.bitCount(ponds) > 5 || days < 0 || days > 9999) {
            return NONE;
        }
        int left = days;
        int done = 0;
        while (true) {
            int best = NONE;
            BigInteger bestFall = BigInteger.ZERO;
            BigInteger bestDays = BigInteger.ONE;
            for (int p = 0; p < h.n(); p++) {
                if ((ponds >> p & 1) == 0 || h.ponds.get(p).chance == 0 || days(h, 1 << p) > left) {
                    continue;
                }
                BigInteger fall = BigInteger.valueOf(mean(h) - mean(mend(h, 1 << p)));
                BigInteger cost = BigInteger.valueOf(days(h, 1 << p));
                // With a MEND of 0 all cost nothing, so that the fall alone decides.
                BigInteger by = cost.signum() == 0 ? BigInteger.ONE : cost;
                if (fall.signum() > 0 && fall.multiply(bestDays).compareTo(bestFall.multiply(by)) > 0) {
                    best = p;
                    bestFall = fall;
                    bestDays = by;
                }
            }
            if (best == NONE) {
                return done;
            }
            left -= days(h, 1 << best);
            done |= 1 << best;
            h = mend(h, 1 << best);
        }
    }

    long mended(int hill, int plan, int ponds) {
        Hill h = on(hill, plan);
        return hasSet(h, ponds) ? mean(mend(h, ponds)) : NONE;
    }

    long one(int hill, int plan, boolean much) {
        Hill h = on(hill, plan);
        if (h == null || h.n() == 0) {
            return NONE;
        }
        long[] means = new long[h.n()];
        int best = 0;
        for (int p = 0; p < h.n(); p++) {
            means[p] = sum(h, p, d -> d.harm);
            best = means[p] < means[best] ? p : best;
        }
        return much ? means[best] : best;
    }

    int low(int hill, int plan, int pond) {
        Hill h = on(hill, plan);
        if (!has(h, pond)) {
            return NONE;
        }
        int best = 0;
        long least = Long.MAX_VALUE;
        for (int k = 0; k <= h.ponds.get(pond).level; k++) {
            int by = k;
            long loss = mean(h.with(x -> x.ponds.get(pond).level -= by)) + likely(hill, plan, NONE) * h.ponds.get(pond).rice * k;
            if (loss < least) {
                least = loss;
                best = k;
            }
        }
        return best;
    }

    long helps(int hill, int plan, int owner, int other) {
        Hill h = on(hill, plan);
        if (h == null || owner < 0 || owner > 3 || other < 0 || other > 3) {
            return NONE;
        }
        return meanOf(h, other) - meanOf(mend(h, owned(h, owner, true)), other);
    }

    long alone(int hill, int plan, int owner) {
        Hill h = on(hill, plan);
        return h == null || owner < 0 || owner > 3 ? NONE : meanOf(mend(h, owned(h, owner, false)), owner);
    }

    long hear(int hill, int plan, int pond, int m) {
        Hill h = on(hill, plan);
        if (!has(h, pond) || m < 0 || m > 99) {
            return Long.MIN_VALUE;
        }
        return mean(h) - mean(h.with(x -> x.ponds.get(pond).gate = m));
    }

    private static long mayOf(Hill h, List<Integer> order) {
        Hill x = h.copy();
        x.rains.replaceAll(r -> new int[] {0, r[1]});
        long sum = 0;
        for (int p : order) {
            x.ponds.get(p).level = x.ponds.get(p).holds;
            sum += mean(x);
        }
        return sum;
    }

    private static void orders(List<Integer> so, List<Integer> rest, List<List<Integer>> all) {
        if (rest.isEmpty()) {
            all.add(List.copyOf(so));
        }
        for (Integer p : rest) {
            List<Integer> more = new ArrayList<>(so);
            more.add(p);
            List<Integer> less = new ArrayList<>(rest);
            less.remove(p);
            orders(more, less, all);
        }
    }

    private static List<Integer> members(int set) {
        List<Integer> all = new ArrayList<>();
        for (int p = 0; p < 9; p++) {
            if ((set >> p & 1) == 1) {
                all.add(p);
            }
        }
        return all;
    }

    private static List<Integer> bestOrder(Hill h, int ponds) {
        List<List<Integer>> all = new ArrayList<>();
        orders(List.of(), members(ponds), all);
        List<Integer> best = all.get(0);
        long least = mayOf(h, best);
        for (List<Integer> order : all) {
            long may = mayOf(h, order);
            if (may < least) {
                least = may;
                best = order;
            }
        }
        return best;
    }

    private static boolean canFill(Hill h, int ponds) {
        return hasSet(h, ponds) && ponds > 0 && Integer.bitCount(ponds) <= 4;
    }

    long may(int hill, int plan, int ponds, boolean first) {
        Hill h = on(hill, plan);
        if (!canFill(h, ponds)) {
            return NONE;
        }
        List<Integer> down = new ArrayList<>(members(ponds));
        down.sort((a, b) -> b - a);
        return mayOf(h, first ? down : bestOrder(h, ponds));
    }

    int order(int hill, int plan, int ponds, int k) {
        Hill h = on(hill, plan);
        return canFill(h, ponds) && k >= 0 && k < Integer.bitCount(ponds) ? bestOrder(h, ponds).get(k) : NONE;
    }

    private static BigInteger[] fraction(long above, long below) {
        if (below == 0) {
            return new BigInteger[] {BigInteger.ZERO, BigInteger.ONE};
        }
        BigInteger a = BigInteger.valueOf(above);
        BigInteger b = BigInteger.valueOf(below);
        return new BigInteger[] {a.divide(a.gcd(b)), b.divide(a.gcd(b))};
    }

    private static BigInteger[] thought(Pond p) {
        return fraction(p.chance * p.t, p.chance * p.t + (10 - p.chance) * p.f);
    }

    int think(int hill, int plan, int pond, boolean under) {
        Hill h = on(hill, plan);
        return has(h, pond) ? thought(h.ponds.get(pond))[under ? 1 : 0].intValue() : NONE;
    }

    int now(int hill, int plan) {
        Hill h = on(hill, plan);
        int best = NONE;
        BigInteger above = BigInteger.ZERO;
        BigInteger below = BigInteger.ONE;
        for (int p = 0; h != null && p < h.n(); p++) {
            BigInteger[] f = thought(h.ponds.get(p));
            BigInteger a = f[0].multiply(BigInteger.valueOf(h.ponds.get(p).harm));
            if (a.multiply(below).compareTo(above.multiply(f[1])) > 0) {
                best = p;
                above = a;
                below = f[1];
            }
        }
        return best;
    }

    long years(int hill, int plan, int seed, int n, int what) {
        Hill h = on(hill, plan);
        if (h == null || n < 1 || n > 99) {
            return NONE;
        }
        long x = seed & 0xffffffffL;
        long harm = 0;
        long some = 0;
        int last = 0;
        long[] each = new long[h.n()];
        for (int year = 0; year < n; year++) {
            x = x * 1103515245L + 12345L & 0xffffffffL;
            long drawn = (x >> 16) % 100;
            int rain = 0;
            while (drawn >= h.rains.get(rain)[1]) {
                drawn -= h.rains.get(rain)[1];
                rain++;
            }
            int banks = 0;
            for (int p = 0; p < h.n(); p++) {
                x = x * 1103515245L + 12345L & 0xffffffffL;
                banks += (x >> 16) % 10 < h.ponds.get(p).chance ? 1 << p : 0;
            }
            Done d = run(h, h.rains.get(rain)[0], banks, NONE);
            harm += d.harm;
            last = d.set();
            some += last != 0 ? 1 : 0;
            for (int p = 0; p < h.n(); p++) {
                each[p] += d.went[p] ? 1 : 0;
            }
        }
        if (what >= 10 && what < 10 + h.n()) {
            return each[what - 10];
        }
        return what == 0 ? harm : what == 1 ? some : what == 2 ? last : NONE;
    }

    int spared(int hill, int plan, int rain) {
        Hill h = on(hill, plan);
        if (!hasRain(h, rain)) {
            return NONE;
        }
        int count = 0;
        for (int set = 0; set < 1 << h.n(); set++) {
            int went = run(h, h.rains.get(rain)[0], set, NONE).set();
            count += (went | set) == set ? 1 : 0;
        }
        return count;
    }

    int deep(int hill, int plan) {
        Hill h = on(hill, plan);
        if (h == null) {
            return NONE;
        }
        int most = 0;
        for (int[] rain : h.rains) {
            for (int set = 0; set < 1 << h.n(); set++) {
                boolean can = members(set).stream().allMatch(p -> h.ponds.get(p).chance > 0);
                most = can ? Math.max(most, Integer.bitCount(run(h, rain[0], set, NONE).set())) : most;
            }
        }
        return most;
    }

    int safe(int hill, int plan) {
        Hill h = on(hill, plan);
        int safe = NONE;
        for (int s = 0; h != null && s <= 9; s++) {
            safe = run(h, s, 0, NONE).set() == 0 ? s : safe;
        }
        return safe;
    }

    int weighs(int hill, int plan) {
        Hill h = on(hill, plan);
        int best = NONE;
        long most = 0;
        for (int p = 0; h != null && p < h.n(); p++) {
            int pond = p;
            if (h.ponds.get(p).chance < 10) {
                long adds = mean(h.with(x -> x.ponds.get(pond).chance++)) - mean(h);
                if (adds > most) {
                    most = adds;
                    best = p;
                }
            }
        }
        return best;
    }

    private static boolean flows(Hill h, int from, int to) {
        Pond p = h.ponds.get(from);
        return p.down == to || p.aside == to || p.down >= 0 && flows(h, p.down, to) || p.aside >= 0 && flows(h, p.aside, to);
    }

    int upon(int hill, int plan, int pond, boolean below) {
        Hill h = on(hill, plan);
        if (!has(h, pond)) {
            return NONE;
        }
        int set = 0;
        for (int p = 0; p < h.n(); p++) {
            set += (below ? flows(h, pond, p) : flows(h, p, pond)) ? 1 << p : 0;
        }
        return set;
    }

    int runs(int hill, int plan, int pond) {
        Hill h = on(hill, plan);
        int least = NONE;
        for (int s = 9; has(h, pond) && s >= 0; s--) {
            least = run(h, s, 0, NONE).went[pond] ? s : least;
        }
        return least;
    }

    long joint(int hill, int plan, int one, int other) {
        Hill h = on(hill, plan);
        return has(h, one) && has(h, other) ? sum(h, NONE, d -> d.went[one] && d.went[other] ? 1 : 0) : NONE;
    }

    long given(int hill, int plan, int one, int other, boolean under) {
        long both = joint(hill, plan, one, other);
        if (both == NONE || likely(hill, plan, one) == 0) {
            return NONE;
        }
        return fraction(both, likely(hill, plan, one))[under ? 1 : 0].longValue();
    }

    long worst(int hill, int plan, int what) {
        Hill h = on(hill, plan);
        if (h == null || what < 0 || what > 3) {
            return NONE;
        }
        long[] worst = {0, 0, -1, 0};
        walk(h, NONE, (r, b, parts, d) -> {
            if (d.harm > worst[2]) {
                worst[0] = r;
                worst[1] = b;
                worst[2] = d.harm;
                worst[3] = parts;
            }
        });
        return worst[what];
    }

    int flood(int hill, int plan) {
        Hill h = on(hill, plan);
        if (h == null) {
            return NONE;
        }
        int[] most = new int[1];
        walk(h, NONE, (r, b, parts, d) -> most[0] = Math.max(most[0], d.brook));
        return most[0];
    }

    int around(int hill, int plan, boolean second) {
        Hill h = on(hill, plan);
        if (h == null) {
            return NONE;
        }
        long least = mean(h);
        int[] best = {NONE, NONE};
        for (int a = 0; a < h.n(); a++) {
            for (int b = a + 1; b < h.n(); b++) {
                int from = a;
                int to = b;
                long mean = mean(h.with(x -> x.ponds.get(from).down = to));
                if (!h.ponds.get(a).out && h.ponds.get(a).down != b && mean < least) {
                    least = mean;
                    best = new int[] {a, b};
                }
            }
        }
        return best[second ? 1 : 0];
    }

    int better(int hill, int one, int other) {
        Hill a = on(hill, one);
        Hill b = on(hill, other);
        return a == null || b == null ? NONE : mean(a) < mean(b) ? 0 : mean(a) > mean(b) ? 1 : 2;
    }

    int spend(int hill, int plan, int ponds, int m) {
        Hill h = on(hill, plan);
        if (!hasSet(h, ponds) || Integer.bitCount(ponds) > 5 || m < 0 || m > 100) {
            return NONE;
        }
        int fewest = NONE;
        for (int set : subsets(ponds)) {
            if (100 * mean(mend(h, set)) <= m * mean(h) && (fewest == NONE || days(h, set) < fewest)) {
                fewest = days(h, set);
            }
        }
        return fewest;
    }
}
