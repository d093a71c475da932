import java.lang.reflect.Method;
import java.util.ArrayList;
import java.util.Arrays;
import java.util.List;
import java.util.Random;

/** Random runs of calls, also with wrong arguments and broken texts, against the Oracle. */
public final class OracleTest {
    private static final int RUNS = 5000;
    private static final int CALLS = 60;
    /** Runs that use an object up, so that much has been told, struck and called back before it is asked. */
    private static final int LONG_RUNS = 400;
    private static final int MOST_CALLS = 512;
    private static final List<String> TELLING = List.of("image", "again", "again", "text", "end", "feed", "fault", "count");

    private final Random random;
    private final Check check;
    private final PondStair x = new PondStair();
    private final Oracle oracle = new Oracle();
    private int asked = 0;

    private OracleTest(int seed, Check check) {
        this.random = new Random(seed);
        this.check = check;
    }

    public static void main(String[] args) throws Exception {
        Check check = new Check();
        for (int seed = 0; seed < RUNS && check.wrong() == 0; seed++) {
            new OracleTest(seed, check).run(seed);
        }
        for (int seed = RUNS; seed < RUNS + LONG_RUNS && check.wrong() == 0; seed++) {
            new OracleTest(seed, check).runLong(seed);
        }
        check.close();
    }

    private static List<Method> methods() {
        List<Method> methods = new ArrayList<>();
        for (Method m : PondStair.class.getDeclaredMethods()) {
            if (java.lang.reflect.Modifier.isPublic(m.getModifiers())) {
                methods.add(m);
            }
        }
        methods.sort((a, b) -> a.getName().compareTo(b.getName()));
        return methods;
    }

    /** A text takes 36 calls at most: 30 feeds, two ends, text and fault. */
    private void runLong(int seed) throws Exception {
        List<Method> methods = methods();
        text(seed, 0, true);
        while (asked < MOST_CALLS - 36) {
            if (random.nextInt(30) == 0) {
                text(seed, random.nextInt(2), random.nextInt(3) != 0);
            }
            String telling = random.nextInt(5) == 0 ? TELLING.get(random.nextInt(TELLING.size())) : "";
            for (Method m : methods) {
                if (m.getName().equals(telling)) {
                    ask(seed, m, arguments(m));
                }
            }
            Method m = methods.get(random.nextInt(methods.size()));
            ask(seed, m, arguments(m));
        }
    }

    private void run(int seed) throws Exception {
        List<Method> methods = methods();
        for (int call = 0; call < CALLS; call++) {
            if (call < 5 || random.nextInt(25) == 0) {
                int sort = call == 0 ? 0 : random.nextInt(2);
                text(seed, sort, call == 0 || random.nextInt(4) != 0);
            }
            Method m = methods.get(random.nextInt(methods.size()));
            ask(seed, m, arguments(m));
        }
    }

    private void ask(int seed, Method m, Object[] arguments) throws Exception {
        Method o = Oracle.class.getDeclaredMethod(m.getName(), m.getParameterTypes());
        asked++;
        Object got = m.invoke(x, arguments);
        Object want = o.invoke(oracle, arguments);
        String call = "seed " + seed + ": " + m.getName() + Arrays.toString(arguments);
        if (got instanceof Boolean b) {
            check.same(call, b, (Boolean) want);
        } else {
            check.same(call, ((Number) got).longValue(), ((Number) want).longValue());
        }
    }

    private void text(int seed, int sort, boolean whole) {
        String text = sort == 0 ? hillText() : planText();
        if (!whole) {
            text = broken(text);
        }
        if (text.length() > 600) {
            text = text.substring(0, 600);
        }
        int at = place(sort);
        Tape.put(x, text);
        asked += 5 + (text.length() + 19) / 20;
        oracle.end(0);
        for (int k = 0; k < text.length(); k += 20) {
            int[] w = Tape.words(text, k);
            oracle.feed(w[0], w[1], w[2], w[3], w[4]);
        }
        oracle.end(text.length());
        check.same("seed " + seed + ": text of <" + text + ">", x.text(sort, at), oracle.text(sort, at));
        check.same("seed " + seed + ": its fault <" + text + ">", x.fault(0), oracle.fault(0));
        check.same("seed " + seed + ": its place <" + text + ">", x.fault(1), oracle.fault(1));
    }

    /** In the place of one more often where there can be no further one. */
    private int place(int sort) {
        int there = oracle.count(sort);
        boolean full = there == (sort == 0 ? 2 : 3);
        return random.nextInt(full ? 2 : 8) == 0 ? random.nextInt(there + 1) : -1;
    }

    private int upTo(int most) {
        return random.nextInt(most + 1);
    }

    private String hillText() {
        int n = random.nextInt(12) == 0 ? upTo(9) : upTo(5);
        StringBuilder b = new StringBuilder();
        int most = random.nextBoolean() ? 24 : 8;
        for (int p = 0; p < n; p++) {
            int holds = upTo(most);
            line(b, "pond", holds, upTo(holds), random.nextInt(3) == 0 ? upTo(9) : upTo(2));
        }
        for (int p = 0; p < n; p++) {
            pondLines(b, p, n);
        }
        int rains = upTo(3);
        int rest = 100;
        for (int r = 0; r < rains; r++) {
            int chance = r == rains - 1 ? rest : upTo(rest);
            line(b, "rain", random.nextBoolean() ? upTo(9) : upTo(3), chance);
            rest -= chance;
        }
        for (String word : List.of("mend", "wide", "round")) {
            if (random.nextBoolean()) {
                line(b, word, random.nextInt(4) == 0 ? 0 : upTo(20));
            }
        }
        return b.toString();
    }

    private void pondLines(StringBuilder b, int p, int n) {
        if (p < n - 1 && random.nextInt(5) > 0) {
            line(b, "down", p, random.nextInt(3) > 0 ? p + 1 : p + 1 + random.nextInt(n - p - 1));
        }
        if (p < n - 1 && random.nextInt(3) == 0) {
            line(b, "aside", p, p + 1 + random.nextInt(n - p - 1), upTo(10));
        }
        if (random.nextBoolean()) {
            line(b, "bears", p, upTo(4));
        }
        if (random.nextInt(3) > 0) {
            line(b, "goes", p, random.nextInt(4) > 0 ? upTo(4) : upTo(10));
        }
        if (random.nextInt(4) > 0) {
            line(b, "harm", p, random.nextBoolean() ? upTo(999) : upTo(3));
        }
        String[] rare = {"owner", "rice", "way", "gate"};
        int[] most = {3, random.nextInt(3) == 0 ? 99 : 3, 12, 9};
        for (int k = 0; k < rare.length; k++) {
            if (random.nextInt(3) > 0 && b.length() < 480) {
                line(b, rare[k], p, upTo(most[k]));
            }
        }
        if (random.nextBoolean() && b.length() < 480) {
            line(b, "sign", p, upTo(10), upTo(10));
        }
    }

    private String planText() {
        StringBuilder b = new StringBuilder();
        int works = random.nextInt(10) == 0 ? upTo(13) : upTo(4);
        for (int w = 0; w < works; w++) {
            int p = random.nextInt(6) == 0 ? upTo(8) : upTo(3);
            switch (random.nextInt(5)) {
                case 0 -> line(b, "mend", p, 1 + upTo(2));
                case 1 -> line(b, "low", p, 1 + upTo(3));
                case 2 -> line(b, "widen", p, 1 + upTo(random.nextBoolean() ? 3 : 23));
                case 3 -> line(b, "round", p, Math.min(8, p + upTo(3)));
                default -> line(b, "out", p);
            }
        }
        return b.toString();
    }

    private void line(StringBuilder b, String word, int... numbers) {
        b.append(word);
        for (int n : numbers) {
            b.append(random.nextInt(20) == 0 ? " \n" : " ").append(random.nextInt(30) == 0 ? "0" + n % 100 : "" + n);
        }
        b.append(random.nextInt(20) == 0 ? " ;\n" : ";");
    }

    private static final String SIGNS = "0123456789;; \npondaiwrelgshmtu#A\u00e9\t-";

    private String broken(String text) {
        StringBuilder b = new StringBuilder(text);
        int times = 1 + random.nextInt(3);
        for (int k = 0; k < times; k++) {
            int at = random.nextInt(b.length() + 1);
            char sign = SIGNS.charAt(random.nextInt(SIGNS.length()));
            switch (random.nextInt(4)) {
                case 0 -> b.insert(at, sign);
                case 1 -> b.setLength(at);
                case 2 -> b.append(random.nextBoolean() ? hillText() : planText());
                default -> {
                    if (at < b.length()) {
                        b.setCharAt(at, random.nextBoolean() ? (char) ('0' + random.nextInt(10)) : sign);
                    }
                }
            }
        }
        return b.toString();
    }

    private int hillNumber() {
        return random.nextInt(12) == 0 ? random.nextInt(5) - 2 : random.nextInt(Math.max(1, oracle.count(0)));
    }

    private int planNumber() {
        return random.nextInt(12) == 0 ? random.nextInt(7) - 3 : random.nextInt(oracle.count(1) + 1) - 1;
    }

    private int pondNumber(int n) {
        return random.nextInt(10) == 0 ? random.nextInt(14) - 3 : random.nextInt(Math.max(1, n));
    }

    private int set(int n) {
        return random.nextInt(12) == 0 ? random.nextInt(1100) - 40 : random.nextInt(1 << Math.max(0, n));
    }

    private Object[] arguments(Method m) {
        int hill = hillNumber();
        int n = oracle.hill(hill, 0);
        int rains = Math.max(1, oracle.hill(hill, 1));
        int rain = random.nextInt(12) == 0 ? random.nextInt(7) - 2 : random.nextInt(rains);
        int next = random.nextInt(12) == 0 ? random.nextInt(7) - 2 : random.nextInt(rains);
        int plan = planNumber();
        int owner = random.nextInt(7) - 1;
        int what = random.nextInt(8) - 1;
        boolean flag = random.nextBoolean();
        int days = random.nextInt(8) == 0 ? random.nextInt(12000) - 1000 : random.nextInt(90);
        int stormWhat = random.nextInt(10) == 0 ? random.nextInt(50) - 4 : new int[] {0, 1, 10, 20, 30, 40}[random.nextInt(6)];
        stormWhat += stormWhat >= 10 && stormWhat < 40 ? random.nextInt(Math.max(1, n)) : 0;
        return switch (m.getName()) {
            case "feed" -> new Object[] {random.nextInt(), random.nextInt(), random.nextInt(), 1886350948, 538976288};
            case "end" -> new Object[] {random.nextInt(40) - 3};
            case "text" -> new Object[] {random.nextInt(5) - 1, random.nextInt(6) - 2};
            case "fault", "count", "image", "again" -> new Object[] {random.nextInt(6) - 1};
            case "hill" -> new Object[] {hill, random.nextInt(30) - 2};
            case "pond" -> new Object[] {hill, plan, pondNumber(n), random.nextInt(19) - 1};
            case "work" -> new Object[] {plan, random.nextInt(7) - 1, random.nextInt(5) - 1};
            case "plan" -> new Object[] {hill, plan, random.nextInt(5) - 1};
            case "storm" -> new Object[] {hill, plan, rain, set(n), stormWhat};
            case "twice" -> new Object[] {hill, plan, rain, set(n), next, set(n), stormWhat};
            case "likely", "low", "runs" -> new Object[] {hill, plan, pondNumber(n)};
            case "mean", "alone" -> new Object[] {hill, plan, owner};
            case "rows", "one", "around" -> new Object[] {hill, plan, flag};
            case "brings" -> new Object[] {hill, plan, rain, pondNumber(n)};
            case "best", "steps" -> new Object[] {hill, plan, set(n), days};
            case "spend" -> new Object[] {hill, plan, set(n), random.nextInt(120) - 10};
            case "mended" -> new Object[] {hill, plan, set(n)};
            case "helps" -> new Object[] {hill, plan, owner, random.nextInt(7) - 1};
            case "hear" -> new Object[] {hill, plan, pondNumber(n), random.nextInt(8) == 0 ? random.nextInt(120) - 10 : upTo(9)};
            case "may" -> new Object[] {hill, plan, set(n), flag};
            case "order" -> new Object[] {hill, plan, set(n), random.nextInt(6) - 1};
            case "think", "upon" -> new Object[] {hill, plan, pondNumber(n), flag};
            case "years" -> new Object[] {hill, plan, random.nextInt(), random.nextInt(12) == 0 ? random.nextInt(110) - 5 : 1 + upTo(40),
                random.nextInt(5) == 0 ? random.nextInt(25) - 2 : random.nextBoolean() ? upTo(2) : 10 + upTo(3)};
            case "spared" -> new Object[] {hill, plan, rain};
            case "joint" -> new Object[] {hill, plan, pondNumber(n), pondNumber(n)};
            case "given" -> new Object[] {hill, plan, pondNumber(n), pondNumber(n), flag};
            case "worst" -> new Object[] {hill, plan, what};
            case "better" -> new Object[] {hill, plan, planNumber()};
            default -> new Object[] {hill, plan};
        };
    }
}
