import java.lang.management.ManagementFactory;
import java.lang.reflect.InvocationTargetException;
import java.lang.reflect.Method;
import java.lang.reflect.Modifier;
import java.util.Arrays;
import java.util.Random;

/** Any arguments in any state throw nothing, and calls make next to no objects. */
public final class RoomTest {
    private static final int[] EDGES = {
        Integer.MIN_VALUE, Integer.MIN_VALUE + 9, -1000, -33, -10, -2, -1, 0, 1, 2, 3, 4, 5, 8, 9, 10, 11, 15, 16, 18, 19, 20,
        29, 31, 32, 38, 39, 40, 41, 99, 100, 101, 255, 511, 512, 600, 9999, 10000, 65536, Integer.MAX_VALUE - 9,
        Integer.MAX_VALUE,
    };
    private static final String NINE = "pond 9 9 1;pond 9 5 2;pond 9 6 1;pond 9 7 1;pond 9 8 1;pond 9 8 1;pond 9 8 1;pond 9 7 1;pond 9 8 1;"
        + "down 0 1;down 1 2;down 2 3;down 3 4;down 4 5;down 5 6;down 6 7;down 7 8;aside 0 3 4;gate 5 0;gate 8 2;way 7 3;"
        + "goes 0 5;goes 1 4;goes 2 3;goes 3 2;goes 4 1;goes 5 2;goes 6 3;goes 7 4;goes 8 5;"
        + "harm 0 9;harm 1 8;harm 2 7;harm 3 6;harm 4 5;harm 5 4;harm 6 3;harm 7 2;harm 8 1;rain 0 25;rain 1 25;rain 2 25;rain 9 25;";
    private static final Check CHECK = new Check();

    private RoomTest() {
    }

    public static void main(String[] args) throws Exception {
        for (int seed = 0; seed < 300; seed++) {
            anything(new Random(seed));
        }
        room();
        CHECK.close();
    }

    private static PondStair state(Random random) {
        PondStair x = new PondStair();
        int kind = random.nextInt(4);
        if (kind > 0) {
            Tape.hill(x, kind == 1 ? "" : kind == 2 ? "pond 0 0 0;" : NINE);
            Tape.plan(x, random.nextBoolean() ? "out 0;out 8;" : "round 0 8;low 1 1;widen 8 24;mend 3 2;");
        }
        return x;
    }

    private static void anything(Random random) throws Exception {
        PondStair x = state(random);
        for (Method m : PondStair.class.getDeclaredMethods()) {
            for (int k = 0; Modifier.isPublic(m.getModifiers()) && k < 8; k++) {
                Object[] arguments = new Object[m.getParameterCount()];
                for (int i = 0; i < arguments.length; i++) {
                    int value = random.nextInt(3) == 0 ? random.nextInt(2) - 1 : EDGES[random.nextInt(EDGES.length)];
                    arguments[i] = m.getParameterTypes()[i] == boolean.class ? (Object) random.nextBoolean() : (Object) value;
                }
                try {
                    m.invoke(x, arguments);
                } catch (InvocationTargetException e) {
                    CHECK.isTrue(m.getName() + Arrays.toString(arguments) + " threw " + e.getCause(), false);
                }
            }
        }
    }

    private static long made() {
        return ((com.sun.management.ThreadMXBean) ManagementFactory.getThreadMXBean()).getCurrentThreadAllocatedBytes();
    }

    /** The machine's own first use of the bean makes objects too, so it is asked twice. */
    private static void room() {
        made();
        long before = made();
        PondStair x = new PondStair();
        long object = made() - before;
        CHECK.isTrue("a new object takes " + object + " bytes", object < 60000);
        CHECK.same("nine ponds", Tape.hill(x, NINE), 0);
        Tape.plan(x, "low 0 1;");
        before = made();
        long sum = 0;
        for (int k = 0; k < 16; k++) {
            sum += dearest(x, k);
        }
        long calls = made() - before;
        CHECK.isTrue("some 400 calls make " + calls + " bytes, of " + sum, calls < 100000);
    }

    private static long dearest(PondStair x, int k) {
        int none = PondStair.NONE;
        long sum = x.around(0, none, true) + x.one(0, 0, true) + x.low(0, none, k % 9) + x.hear(0, 0, k % 9, k);
        sum += x.may(0, none, 15 << k % 5, false) + x.order(0, none, 15 << k % 5, 1) + x.best(0, 0, 31 << k % 4, 40 * k);
        sum += x.steps(0, none, 31 << k % 4, 40 * k) + x.spend(0, none, 31, 5 * k) + x.weighs(0, none) + x.years(0, 0, k, 99, 0);
        sum += x.rows(0, none, true) + x.worst(0, none, 3) + x.flood(0, none) + x.deep(0, 0) + x.spared(0, 0, 1);
        sum += x.brings(0, 0, 0, 8) + x.given(0, 0, 1, 2, true) + x.better(0, 0, none) + x.helps(0, 0, 0, 0);
        sum += (x.image(k % 3) ? 1 : 0) + (x.again(k % 3) ? 1 : 0) + x.feed(k, k, k, k, k) + x.text(1, 0) + x.fault(1);
        return sum;
    }
}
