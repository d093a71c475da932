import java.lang.reflect.Method;
import java.util.ArrayList;
import java.util.Arrays;
import java.util.List;
import java.util.function.IntPredicate;

/**
 * Every argument of every call that asks, on both sides of its limits, the others being as they may be: what is
 * refused, what is not, and that a call changes nothing told, whether it is refused or not.
 */
final class EdgesOfArguments extends Edges {
    /** So few calls an object that building it, asking and looking at it stay under 512. */
    private static final int CALLS = 60;
    private static final int[] PROBES = probes();

    /** All answers of HILL 0, with nine PONDS and four RAINS, and of HILL 1, with three and one, are above NONE. */
    private static final String HILL_0 = "pond 9 9 1;" + "pond 9 4 1;".repeat(8) + "down 0 1;goes 0 5;goes 1 5;goes 2 5;goes 3 5;goes 4 5;"
        + "goes 5 5;goes 6 5;goes 7 5;goes 8 5;harm 0 3;harm 1 7;sign 0 8 2;rain 0 10;rain 0 20;rain 0 30;rain 0 40;mend 2;wide 3;round 4;";
    private static final String HILL_1 = "pond 9 9 1;pond 9 4 1;pond 9 4 1;down 0 1;goes 0 5;goes 1 5;goes 2 5;harm 0 3;harm 1 7;sign 0 8 2;"
        + "rain 0 100;";

    private int hill = 0;
    private int ponds = 0;
    private int rains = 0;

    EdgesOfArguments(Sentences sentences) {
        super(sentences);
    }

    /** An argument that may be, and which others may be. */
    private record Arg(int taken, IntPredicate may) {
    }

    @Override
    void test() {
        on(0, 9, 4);
        on(1, 3, 1);
        withoutHills();
        withoutPonds();
        oneBehindAnother();
    }

    private static int[] probes() {
        List<Integer> all = new ArrayList<>();
        for (int v = -3; v <= 45; v++) {
            all.add(v);
        }
        for (int limit : new int[] {100, 512, 600, 10000}) {
            all.addAll(List.of(limit - 2, limit - 1, limit, limit + 1));
        }
        for (int near = 0; near <= 40; near += near < 12 ? 1 : 10) {
            all.add(Integer.MIN_VALUE + near);
            all.add(Integer.MAX_VALUE - near);
        }
        for (int bits : new int[] {62, 63, 127, 255, 256, 480, 496, 504, 509, 768, 1 << 16, 1 << 30, (1 << 30) + 1, -512, -511, -256}) {
            all.add(bits);
        }
        return all.stream().mapToInt(v -> v).toArray();
    }

    /** Two HILLS, three PLANS, a FAULT, an image, a text on the tape. */
    private PondStair full() {
        PondStair x = with(HILL_0, "low 2 1;", "widen 2 1;", "widen 2 1;".repeat(11) + "out 2;");
        x.image(1);
        due("HILL 1", Tape.hill(x, HILL_1), 1);
        Tape.put(x, "pond 1 1;");
        due("a FAULT", x.text(0, 0), NONE);
        Tape.put(x, "out 7;");
        return x;
    }

    private Arg hills() {
        return new Arg(hill, v -> v == 0 || v == 1);
    }

    private static Arg plans() {
        return new Arg(NONE, v -> v >= -1 && v <= 2);
    }

    private Arg pond() {
        return between(0, 0, ponds - 1);
    }

    private Arg rain() {
        return between(0, 0, rains - 1);
    }

    private Arg set(int taken, int least, int most) {
        int all = 1 << ponds;
        return new Arg(taken, v -> v >= 0 && v < all && Integer.bitCount(v) >= least && Integer.bitCount(v) <= most);
    }

    private static Arg between(int taken, int least, int most) {
        return new Arg(taken, v -> v >= least && v <= most);
    }

    private Arg stormWhat() {
        return new Arg(0, v -> v == 0 || v == 1 || v == 40 || v >= 10 && v < 40 && v % 10 < ponds);
    }

    private void on(int number, int howManyPonds, int howManyRains) {
        hill = number;
        ponds = howManyPonds;
        rains = howManyRains;
        told();
        storms();
        choices();
        terms4();
    }

    private void told() {
        sentence("Promise 6", "NONE: there is none such, or for another what.");
        ask("hill", NONE, hills(), new Arg(0, v -> v >= 0 && v <= 4 || v >= 10 && v < 10 + rains || v >= 20 && v < 20 + rains));
        sentence("Promise 7", "-2: there is none such (of any), or for another what.");
        ask("pond", REFUSED, hills(), plans(), pond(), between(0, 0, 15));
        sentence("Promise 8", "-2: there is none such (of either), or for another what.");
        ask("work", REFUSED, between(2, 0, 2), between(0, 0, 11), between(0, 0, 2));
        sentence("Promise 9", "NONE: there is none such (of either), or for another what.");
        ask("plan", NONE, hills(), plans(), between(0, 0, 2));
        sentence("Promise 5", "NONE for another what.");
        ask("fault", NONE, between(0, 0, 1));
        sentence("Promise 42", "-2 for another what.");
        ask("count", REFUSED, between(0, 0, 1));
    }

    private void storms() {
        sentence("Promise 10", "NONE: there is none such (of any; bits of PONDS that there are), or for another what.");
        ask("storm", NONE, hills(), plans(), rain(), set(0, 0, 9), stormWhat());
        sentence("Promise 11", "NONE: there is none such (of any).");
        ask("likely", NONE, hills(), plans(), between(0, -1, ponds - 1));
        sentence("Promise 12", "NONE: there is none such (of any).");
        ask("mean", NONE, hills(), plans(), between(NONE, -1, 3));
        sentence("Promise 13", "NONE: there is none such (of either).");
        ask("rows", NONE, hills(), plans(), null);
        sentence("Promise 14", "NONE: there is none such (of any).");
        ask("brings", NONE, hills(), plans(), rain(), pond());
        sentence("Promise 28", "NONE: there is none such (of any).");
        ask("spared", NONE, hills(), plans(), rain());
        sentence("Promise 29", "NONE: there is none such (of either).");
        ask("deep", NONE, hills(), plans());
        sentence("Promise 30", "NONE: with none, or there is none such (of either).");
        ask("safe", NONE, hills(), plans());
        sentence("Promise 39", "NONE: there is none such (of any), or for another what.");
        ask("twice", NONE, hills(), plans(), rain(), set(0, 0, 9), rain(), set(0, 0, 9), stormWhat());
    }

    private void choices() {
        sentence("Promise 15", "NONE: more than 5, or there is none such (of any).");
        ask("best", NONE, hills(), plans(), set(3, 0, 5), between(20, 0, 9999));
        sentence("Promise 16", "NONE: as best().");
        ask("steps", NONE, hills(), plans(), set(3, 0, 5), between(20, 0, 9999));
        sentence("Promise 17", "NONE: there is none such (of any).");
        ask("mended", NONE, hills(), plans(), set(3, 0, 9));
        sentence("Promise 18", "NONE: there are no PONDS, or there is none such (of either).");
        ask("one", NONE, hills(), plans(), null);
        sentence("Promise 19", "NONE: there is none such (of any).");
        ask("low", NONE, hills(), plans(), pond());
        sentence("Promise 20", "-1: there is none such (of any; OWNERS 0 .. 3, of one: his own).");
        ask("helps", -1, hills(), plans(), between(0, 0, 3), between(0, 0, 3));
        sentence("Promise 21", "NONE: there is none such (of any).");
        ask("alone", NONE, hills(), plans(), between(0, 0, 3));
        sentence("Promise 22", "The least long: there is none such (of any), or another m.");
        ask("hear", Long.MIN_VALUE, hills(), plans(), pond(), between(0, 0, 99));
        sentence("Promise 23", "NONE: they are not 1 to 4 that there are, or there is none such (of any).");
        ask("may", NONE, hills(), plans(), set(3, 1, 4), null);
        sentence("Promise 24", "NONE: as may(), or there is none such.");
        ask("order", NONE, hills(), plans(), set(7, 1, 4), between(0, 0, 2));
        sentence("Promise 25", "NONE: there is none such (of any).");
        ask("think", NONE, hills(), plans(), pond(), null);
        sentence("Promise 26", "NONE: none above 0, or there is none such (of either).");
        ask("now", NONE, hills(), plans());
        sentence("Promise 27", "NONE: there is none such (of any), or for another what.");
        IntPredicate years = v -> v >= 0 && v <= 2 || v >= 10 && v < 10 + ponds;
        ask("years", NONE, hills(), plans(), new Arg(1, v -> true), between(9, 1, 99), new Arg(0, years));
        sentence("Promise 31", "NONE: none adds, or there is none such (of either).");
        ask("weighs", NONE, hills(), plans());
    }

    private void terms4() {
        sentence("Promise 32", "NONE: there is none such (of any).");
        ask("upon", NONE, hills(), plans(), pond(), null);
        sentence("Promise 33", "NONE: by none, or there is none such (of any).");
        ask("runs", NONE, hills(), plans(), pond());
        sentence("Promise 34", "NONE: there is none such (of any).");
        ask("joint", NONE, hills(), plans(), pond(), pond());
        sentence("Promise 35", "NONE: the first one GOES in no PARTS, or there is none such (of any).");
        ask("given", NONE, hills(), plans(), pond(), pond(), null);
        sentence("Promise 36", "NONE: there is none such (of either), or for another what.");
        ask("worst", NONE, hills(), plans(), between(0, 0, 3));
        sentence("Promise 37", "NONE: there is none such (of either).");
        ask("flood", NONE, hills(), plans());
        sentence("Promise 38", "NONE: none, or there is none such (of either).");
        ask("around", NONE, hills(), plans(), null);
        sentence("Promise 40", "NONE: there is none such (of any; NONE as a PLAN: without WORKS).");
        ask("better", NONE, hills(), plans(), plans());
        sentence("Promise 41", "NONE: with none, more than 5, or there is none such (of any).");
        ask("spend", NONE, hills(), plans(), set(3, 0, 5), between(100, 0, 100));
        ask("spend", NONE, hills(), plans(), new Arg(3, v -> v >= 0 && v < 1 << ponds && Integer.bitCount(v) <= 5 && (v & 3) == 3),
            between(0, 0, 100));
    }

    // ---- how it asks

    /** An argument of null stands for a boolean, which may be either. */
    private void ask(String name, long refused, Arg... args) {
        for (int i = 0; i < args.length; i++) {
            for (int from = 0; args[i] != null && from < PROBES.length; from += CALLS) {
                PondStair x = full();
                for (int k = from; k < Math.min(from + CALLS, PROBES.length); k++) {
                    probe(x, name, refused, args, i, PROBES[k]);
                }
                same(name + "() changes nothing", Portrait.of(x), Portrait.of(full()));
            }
        }
    }

    private void probe(PondStair x, String name, long refused, Arg[] args, int which, int value) {
        boolean flag = value % 2 == 0;
        Object[] values = new Object[args.length];
        for (int i = 0; i < args.length; i++) {
            if (args[i] == null) {
                values[i] = flag;
            } else {
                values[i] = i == which ? value : args[i].taken();
            }
        }
        boolean may = args[which].may().test(value);
        long got = answer(x, name, values);
        String call = name + Arrays.toString(values) + " answered " + got;
        due(call + ", refused", got == refused, !may);
    }

    private static long answer(PondStair x, String name, Object... values) {
        Class<?>[] types = new Class<?>[values.length];
        for (int i = 0; i < values.length; i++) {
            types[i] = values[i] instanceof Boolean ? boolean.class : int.class;
        }
        try {
            Method method = PondStair.class.getMethod(name, types);
            return ((Number) method.invoke(x, values)).longValue();
        } catch (ReflectiveOperationException e) {
            throw new IllegalStateException(name + Arrays.toString(values), e);
        }
    }

    // ---- objects without

    private void withoutHills() {
        PondStair x = new PondStair();
        due("a PLAN", Tape.plan(x, "out 0;"), 0);
        refusesAll(x, 0, NONE);
        refusesAll(x, 0, 0);
        refusesAll(x, NONE, NONE);
        due("count(0)", x.count(0), 0);
    }

    /** All that asks of a HILL, with a HILL that is not there. */
    private void refusesAll(PondStair x, int number, int plan) {
        String two = " of HILL " + number + ", PLAN " + plan;
        for (String name : new String[] {"deep", "safe", "now", "weighs", "flood"}) {
            due(name + two, answer(x, name, number, plan), NONE);
        }
        for (String name : new String[] {"rows", "one", "around"}) {
            due(name + two, answer(x, name, number, plan, true), NONE);
        }
        for (String name : new String[] {"plan", "likely", "mean", "mended", "low", "alone", "spared", "runs", "worst", "better"}) {
            due(name + two, answer(x, name, number, plan, 0), NONE);
        }
        for (String name : new String[] {"brings", "best", "steps", "order", "joint", "spend", "helps"}) {
            due(name + two, answer(x, name, number, plan, 0, 0), NONE);
        }
        for (String name : new String[] {"may", "think", "upon"}) {
            due(name + two, answer(x, name, number, plan, 1, true), NONE);
        }
        due("pond" + two, x.pond(number, plan, 0, 0), REFUSED);
        due("hill" + two, x.hill(number, 0), NONE);
        due("storm" + two, x.storm(number, plan, 0, 0, 0), NONE);
        due("twice" + two, x.twice(number, plan, 0, 0, 0, 0, 0), NONE);
        due("hear" + two, x.hear(number, plan, 0, 0), Long.MIN_VALUE);
        due("years" + two, x.years(number, plan, 1, 1, 0), NONE);
        due("given" + two, x.given(number, plan, 0, 0, false), NONE);
    }

    /** A HILL without PONDS is there, but no POND of it, and of sets the empty one alone. */
    private void withoutPonds() {
        PondStair x = with("", "");
        for (int plan = NONE; plan < 1; plan++) {
            for (String name : new String[] {"low", "runs"}) {
                due(name, answer(x, name, 0, plan, 0), NONE);
            }
            due("likely", x.likely(0, plan, 0), NONE);
            due("likely, all", x.likely(0, plan, NONE), 100);
            due("pond", x.pond(0, plan, 0, 0), REFUSED);
            due("brings", x.brings(0, plan, 0, 0), NONE);
            due("think", x.think(0, plan, 0, true), NONE);
            due("upon", x.upon(0, plan, 0, true), NONE);
            due("joint", x.joint(0, plan, 0, 0), NONE);
            due("given", x.given(0, plan, 0, 0, true), NONE);
            due("hear", x.hear(0, plan, 0, 0), Long.MIN_VALUE);
            due("years of POND 0", x.years(0, plan, 1, 1, 10), NONE);
            due("years", x.years(0, plan, 1, 1, 2), 0);
            due("order", x.order(0, plan, 0, 0), NONE);
            due("may", x.may(0, plan, 0, true), NONE);
            for (int set = 0; set < 2; set++) {
                int zero = set == 0 ? 0 : NONE;
                due("storm, banks " + set, x.storm(0, plan, 0, set, 0), zero);
                due("twice, banks " + set, x.twice(0, plan, 0, set, 0, 0, 0), zero);
                due("twice, others " + set, x.twice(0, plan, 0, 0, 0, set, 0), zero);
                due("mended, ponds " + set, x.mended(0, plan, set), zero);
                due("best, ponds " + set, x.best(0, plan, set, 9), zero);
                due("steps, ponds " + set, x.steps(0, plan, set, 9), zero);
                due("spend, ponds " + set, x.spend(0, plan, set, 0), zero);
            }
            for (int owner = 0; owner < 4; owner++) {
                due("helps", x.helps(0, plan, owner, owner), 0);
                due("alone", x.alone(0, plan, owner), 0);
            }
        }
    }

    /** What is told of a HILL has nothing of another one that was taken or asked ahead of it. */
    private void oneBehindAnother() {
        sentence("Promise 4", "The tape is taken (and is empty then), as a HILL (sort 0), a PLAN (1), a further one (at NONE), or in the place of"
            + " one: its number.");
        String rich = "pond 2 2 9;".repeat(9) + "goes 1 9;goes 2 9;harm 1 99;harm 2 99;harm 3 9;sign 1 9 1;sign 2 9 1;down 0 1;down 1 2;aside 2 3 5;"
            + "rain 0 10;rain 9 30;rain 9 30;rain 9 30;gate 2 0;rice 1 9;owner 1 1;way 1 9;mend 7;";
        String[] bare = {"", "pond 5 3 1;", "pond 5 3 1;goes 0 3;harm 0 2;sign 0 1 1;", "pond 5 3 1;pond 6 6 0;down 0 1;goes 0 3;harm 1 4;rain 1 100;"};
        for (String hillText : bare) {
            for (int v = 0; v < 4; v++) {
                PondStair x = with(rich);
                due("taking <" + hillText + ">", Tape.hill(x, hillText), 1);
                PondStair y = with(hillText);
                for (Method method : PondStair.class.getDeclaredMethods()) {
                    if (method.getParameterCount() >= 2 && method.getParameterTypes()[0] == int.class
                            && !List.of("feed", "text", "work", "better").contains(method.getName())) {
                        compare(x, y, method, v);
                    }
                }
            }
        }
    }

    private void compare(PondStair x, PondStair y, Method method, int v) {
        if (!java.lang.reflect.Modifier.isPublic(method.getModifiers())) {
            return;
        }
        Object[] values = new Object[method.getParameterCount()];
        for (int i = 0; i < values.length; i++) {
            boolean flag = method.getParameterTypes()[i] == boolean.class;
            values[i] = flag ? (Object) (v % 2 == 0) : i == 1 && values.length > 2 ? (Object) NONE : (Object) v;
        }
        if (values.length == 2 && !method.getName().equals("hill")) {
            values[1] = NONE;
        }
        values[0] = 0;
        answer(x, method.getName(), values);
        long alone = answer(y, method.getName(), values);
        values[0] = 1;
        due(method.getName() + Arrays.toString(values), answer(x, method.getName(), values), alone);
    }
}
