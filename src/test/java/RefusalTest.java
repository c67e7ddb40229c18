import java.lang.reflect.InvocationTargetException;
import java.lang.reflect.Method;
import java.util.Arrays;
import java.util.HashMap;
import java.util.List;
import java.util.Map;
import java.util.function.Supplier;

/**
 * Each refusal of each call, alone and two or three at once, and that nothing is changed by it: of two objects
 * made alike one hears the refused call, and then both must tell the same, down to what is undone and the images.
 */
public final class RefusalTest {
    private static final Check CHECK = new Check("RefusalTest");
    private static final int NONE = RollingCodes.NONE, UNKNOWN = RollingCodes.UNKNOWN, OUTSIDE = RollingCodes.OUTSIDE;
    private static final int NOT = RollingCodes.NOT, FULL = RollingCodes.FULL;
    private static final int LEAST = Integer.MIN_VALUE, MOST = Integer.MAX_VALUE;
    private static final Map<String, Method> CALLS = calls();

    private final String state;
    private final Supplier<RollingCodes> made;
    private final List<Integer> before;

    private RefusalTest(String state, Supplier<RollingCodes> made) {
        this.state = state;
        this.made = made;
        this.before = Probe.of(made.get());
    }

    public static void main(String[] args) {
        busyIsAsTold();
        CHECK.says("What is refused changes nothing.");
        RefusalTest busy = new RefusalTest("busy", RefusalTest::busy);
        busy.unknown();
        busy.outside();
        busy.not();
        busy.several();
        RefusalTest none = new RefusalTest("no street", RollingCodes::new);
        none.withoutAStreet();
        new RefusalTest("bare", () -> Check.on("e3 4;")).bare();
        new RefusalTest("full", RefusalTest::full).whenFull();
        new RefusalTest("late", RefusalTest::late).whenLate();
        new RefusalTest("flat", RefusalTest::flat).whenFlat();
        CHECK.end();
    }

    private static Map<String, Method> calls() {
        Map<String, Method> calls = new HashMap<>();
        for (Method m : RollingCodes.class.getDeclaredMethods()) {
            calls.put(m.getName(), m);
        }
        return calls;
    }

    private static int call(RollingCodes codes, String name, int... args) {
        Method m = CALLS.get(name);
        Object[] given = new Object[args.length];
        for (int i = 0; i < args.length; i++) {
            given[i] = m.getParameterTypes()[i] == boolean.class ? (Object) (args[i] != 0) : (Object) args[i];
        }
        try {
            return (Integer) m.invoke(codes, given);
        } catch (InvocationTargetException | IllegalAccessException thrown) {
            throw new IllegalStateException(name + Arrays.toString(args), thrown);
        }
    }

    private void refused(int refusal, String name, int... args) {
        String what = state + ": " + name + Arrays.toString(args);
        RollingCodes codes = made.get();
        CHECK.due(what, call(codes, name, args), refusal);
        CHECK.isSo(what + " changes nothing", before.equals(Probe.of(codes)));
    }

    /** Three gates, four fobs, five codes kept, gate 1 in noise, gate 2 waits, images, what is seen and written. */
    private static RollingCodes busy() {
        RollingCodes c = Check.on("e5 0;g0 5 9;g2 5 9;g3 5 20;f0 5 0 0 10;f1 5 0 7 20;f2 1 5 30 21;f3 2 2 60 14;");
        Check.feed(c, "e0 0;x");
        c.street();
        c.press(1);
        c.keep(0);
        c.seed(4321);
        c.noise(2, true);
        c.keep(1);
        c.earTo(9);
        for (int i = 0; i < 4; i++) {
            c.press(0);
        }
        c.earTo(5);
        c.noise(2, false);
        c.press(1);
        c.press(0);
        c.noise(1, true);
        c.see(0, 61);
        c.see(1, 75);
        for (int g = 0; g < 3; g++) {
            c.write(g, c.gate(g, 3));
        }
        Check.feed(c, "e1 2;");
        c.seed(99);
        return c;
    }

    private static void busyIsAsTold() {
        RollingCodes c = busy();
        int[] whats = {1, 2, 3, 7, 8, 10, 11};
        int[] want = {3, 4, 5, 5, 2, 2, 3};
        for (int i = 0; i < whats.length; i++) {
            CHECK.due("busy: told(" + whats[i] + ")", c.told(whats[i]), want[i]);
        }
        CHECK.due("busy: gate 2 waits", c.gate(2, 5), 16);
        CHECK.due("busy: one secret fits", c.secrets(0), 1);
        CHECK.due("busy: the book is so", c.judge(), NONE);
        CHECK.isSo("busy: some can be undone", c.told(12) > 0 && c.told(12) < 16);
        CHECK.due("busy: fault()", c.fault(), 5);
        CHECK.due("late: told(4)", late().told(4), 9060);
    }

    /** Four gates, five fobs, all that can be full but the hours. */
    private static RollingCodes full() {
        RollingCodes c = Check.on("e5 9;g0 5 9;g1 5 9;g2 5 9;g3 5 20;" + "f0 5 0 0 10;".repeat(5));
        for (int i = 0; i < 20; i++) {
            c.press(0);
        }
        for (int i = 0; i < 6; i++) {
            c.see(i, c.code(1, i));
        }
        for (int i = 0; i < 15; i++) {
            c.write(i % 4, c.gate(i % 4, 3));
        }
        Check.feed(c, "e1 2;" + " ".repeat(235));
        return c;
    }

    private static RollingCodes late() {
        RollingCodes c = Check.on("e5 9;g2 5 9;f3 5 0 0 10;");
        c.keep(1);
        for (int i = 0; i < 151; i++) {
            c.drift(60);
        }
        return c;
    }

    private static RollingCodes flat() {
        RollingCodes c = Check.on("e5 9;g2 5 9;f0 5 0 0 10;f3 5 0 0 10;");
        for (int i = 0; i < 60; i++) {
            c.press(0);
        }
        return c;
    }

    private void unknown() {
        for (int f : new int[] {LEAST, -1, 4, 5, MOST}) {
            for (String name : new String[] {"press", "fill"}) {
                refused(UNKNOWN, name, f);
            }
            for (String name : new String[] {"last", "teach", "ahead", "locked", "takes"}) {
                refused(UNKNOWN, name, 0, f);
            }
            refused(UNKNOWN, "fob", f, 0);
            refused(UNKNOWN, "step", f, 0);
            refused(UNKNOWN, "wouldOpen", f, 0);
            refused(UNKNOWN, "same", f, 0);
            refused(UNKNOWN, "same", 0, f);
            refused(UNKNOWN, "same", f, f);
        }
        for (int g : new int[] {LEAST, -1, 3, 4, MOST}) {
            for (String name : new String[] {"last", "teach", "ahead", "locked", "takes", "gate", "write", "noise"}) {
                refused(UNKNOWN, name, g, 0);
            }
            refused(UNKNOWN, "noise", g, 1);
            refused(UNKNOWN, "teach", g, 4);
        }
        refused(UNKNOWN, "same", 0, 0);
        refused(UNKNOWN, "same", 3, 3);
        for (int i : new int[] {LEAST, -1, 5, 7, 8, MOST}) {
            refused(UNKNOWN, "again", i);
            refused(NONE, "kept", i);
        }
        for (int i : new int[] {LEAST, -1, 2, 3, MOST}) {
            refused(UNKNOWN, "keep", i);
            refused(UNKNOWN, "goBack", i);
        }
    }

    private void outside() {
        outsideOf("feed", 0, 255);
        outsideOf("told", 0, 12);
        outsideOf("earTo", 0, 9);
        outsideOf("drift", 1, 60);
        outsideOf("who", 0, 508);
        outsideOf("secrets", 0, 2);
        refused(OUTSIDE, "seed", -1);
        refused(OUTSIDE, "seed", LEAST);
        outsideBehind("fob", 0, 0, 6);
        outsideBehind("gate", 0, 0, 6);
        outsideBehind("step", 0, 0, 9);
        outsideBehind("wouldOpen", 0, -1, 9);
        outsideBehind("write", 0, 0, 9999);
        outsideBehind("code", 0, 0, 9999);
        outsideBehind("quiet", 0, 0, 100);
        outsideBehind("see", 0, 0, 508);
        outsideAhead("code", 0, 255);
        outsideAhead("quiet", 0, 60);
        outsideAhead("see", 0, 999);
    }

    private static int[] around(int least, int most) {
        return new int[] {LEAST, least - 1, most + 1, MOST};
    }

    private void outsideOf(String name, int least, int most) {
        for (int n : around(least, most)) {
            refused(OUTSIDE, name, n);
        }
    }

    private void outsideBehind(String name, int first, int least, int most) {
        for (int n : around(least, most)) {
            refused(OUTSIDE, name, first, n);
        }
    }

    private void outsideAhead(String name, int least, int most) {
        for (int n : around(least, most)) {
            refused(OUTSIDE, name, n, 0);
        }
    }

    private void not() {
        refused(NOT, "step", 0, 5);
        refused(NOT, "step", 3, 2);
        refused(NOT, "earTo", 5);
        refused(NOT, "noise", 1, 1);
        refused(NOT, "noise", 0, 0);
        refused(NOT, "noise", 2, 0);
    }

    private void several() {
        CHECK.says("REFUSALS, of several the first in this order: UNKNOWN (a FOB, GATE, entry that THE EAR does not keep, IMAGE that there is not; "
                + "one twice, where two are asked), OUTSIDE (another number out of its bounds), NOT (not now, as told), FULL.");
        for (int none : new int[] {LEAST, -1, 4, MOST}) {
            for (int out : new int[] {LEAST, -2, 10000, MOST}) {
                refused(UNKNOWN, "fob", none, out);
                refused(UNKNOWN, "gate", none, out);
                refused(UNKNOWN, "step", none, out);
                refused(UNKNOWN, "wouldOpen", none, out);
                refused(UNKNOWN, "write", none, out);
                refused(UNKNOWN, "teach", none, out);
                refused(UNKNOWN, "same", none, out);
            }
        }
        CHECK.says("What is refused changes nothing.");
    }

    private void withoutAStreet() {
        for (String name : new String[] {"press", "fill", "again"}) {
            refused(UNKNOWN, name, 0);
        }
        for (String name : new String[] {"fob", "gate", "last", "step", "noise", "teach", "wouldOpen", "ahead", "locked", "takes", "same", "write"}) {
            refused(UNKNOWN, name, 0, 0);
            refused(UNKNOWN, name, -1, -2);
        }
        refused(UNKNOWN, "same", 0, 1);
        refused(UNKNOWN, "noise", 0, 1);
        refused(UNKNOWN, "write", 0, 10000);
        for (int x = 0; x <= 9; x++) {
            refused(NOT, "earTo", x);
        }
        refused(OUTSIDE, "earTo", -1);
        refused(OUTSIDE, "earTo", 10);
        refused(NOT, "drift", 1);
        refused(NOT, "drift", 60);
        refused(OUTSIDE, "drift", 0);
        refused(OUTSIDE, "drift", 61);
        refused(NOT, "undo");
        refused(NOT, "goBack", 0);
        refused(NOT, "goBack", 1);
        refused(UNKNOWN, "goBack", 2);
        refused(UNKNOWN, "goBack", -1);
        refused(NONE, "kept", 0);
        refused(NONE, "row", 0);
        refused(NONE, "judge");
    }

    private void bare() {
        refused(UNKNOWN, "press", 0);
        refused(UNKNOWN, "noise", 0, 1);
        refused(UNKNOWN, "write", 0, 0);
        refused(UNKNOWN, "again", 0);
        refused(NOT, "earTo", 3);
        refused(NOT, "undo");
        refused(NOT, "goBack", 0);
        refused(NOT, "goBack", 1);
    }

    private void whenFull() {
        refused(FULL, "feed", 32);
        refused(FULL, "feed", 0);
        refused(FULL, "feed", 255);
        refused(OUTSIDE, "feed", -1);
        refused(OUTSIDE, "feed", 256);
        refused(FULL, "see", 0, 0);
        refused(FULL, "see", 999, 508);
        refused(OUTSIDE, "see", -1, 0);
        refused(OUTSIDE, "see", 1000, 0);
        refused(OUTSIDE, "see", 0, -1);
        refused(OUTSIDE, "see", 0, 509);
        refused(FULL, "write", 0, 0);
        refused(FULL, "write", 3, 9999);
        refused(OUTSIDE, "write", 0, -1);
        refused(OUTSIDE, "write", 0, 10000);
        refused(UNKNOWN, "write", 4, 0);
        refused(UNKNOWN, "write", 4, 10000);
        refused(UNKNOWN, "write", -1, -1);
        refused(UNKNOWN, "press", 5);
        refused(UNKNOWN, "fob", 5, 0);
        refused(UNKNOWN, "gate", 4, 0);
        refused(UNKNOWN, "same", 4, 4);
        refused(UNKNOWN, "again", 8);
        refused(NOT, "step", 4, 5);
        refused(NOT, "goBack", 0);
        refused(UNKNOWN, "keep", 2);
    }

    private void whenLate() {
        refused(FULL, "drift", 1);
        refused(FULL, "drift", 60);
        refused(OUTSIDE, "drift", 0);
        refused(OUTSIDE, "drift", 61);
        refused(NOT, "goBack", 0);
        refused(UNKNOWN, "goBack", 2);
    }

    private void whenFlat() {
        refused(NOT, "press", 0);
        refused(UNKNOWN, "press", 2);
        refused(0, "wouldOpen", 0, 5);
        refused(OUTSIDE, "wouldOpen", 0, 10);
    }
}
