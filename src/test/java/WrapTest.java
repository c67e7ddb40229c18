/**
 * A COUNT of 9999 goes on to 0, openings end at 9999: far off, but within the 512 calls of an
 * object when each drift begins with a seed that presses often. Each answer is held against the model.
 */
public final class WrapTest {
    private static final Check CHECK = new Check("WrapTest");
    private static final String STREET = "e5 9;g2 5 32;g3 5 32;f1 5 9 3 999;";
    private static final int CALLS = 512;
    private static final int PRESSES_OF_60_HOURS = 45;

    private final RollingCodes codes = new RollingCodes();
    private final Model model = new Model();
    private int calls = 0;

    public static void main(String[] args) {
        int seed = busiestSeed();
        new WrapTest().overTheEdge(seed);
        new WrapTest().mostOpenings(seed);
        CHECK.end();
    }

    private void begin() {
        for (int i = 0; i < STREET.length(); i++) {
            due("feed", codes.feed(STREET.charAt(i)), model.feed(STREET.charAt(i)));
        }
        due("street", codes.street(), model.street());
    }

    private void sixtyHours(int seed) {
        if (model.fob(0, 5) < PRESSES_OF_60_HOURS) {
            due("fill", codes.fill(0), model.fill(0));
        }
        due("seed", codes.seed(seed), model.seed(seed));
        due("drift", codes.drift(60), model.drift(60));
    }

    private void overTheEdge(int seed) {
        begin();
        while (model.fob(0, 4) < 9999 - 100 && calls < CALLS) {
            sixtyHours(seed);
        }
        due("fill", codes.fill(0), model.fill(0));
        while (model.fob(0, 4) < 9990 && calls < CALLS) {
            due("press", codes.press(0), model.press(0));
        }
        due("noise", codes.noise(1, true), model.noise(1, true));
        for (int i = 0; i < 3; i++) {
            due("press", codes.press(0), model.press(0));
        }
        due("locked", codes.locked(1, 0), model.locked(1, 0));
        due("takes", codes.takes(1, 0), model.takes(1, 0));
        due("who", codes.who(Model.codeBy(3, 5)), model.who(Model.codeBy(3, 5)));
        due("noise", codes.noise(1, false), model.noise(1, false));
        for (int i = 0; i < 4; i++) {
            due("press", codes.press(0), model.press(0));
            due("ahead", codes.ahead(1, 0), model.ahead(1, 0));
            due("waits", codes.gate(1, 5), model.gate(1, 5));
            due("last", codes.last(1, 0), model.last(1, 0));
        }
        CHECK.isSo("the count has gone on to 0: " + model.fob(0, 4), codes.fob(0, 4) < 100);
        CHECK.isSo("within " + CALLS + " calls: " + calls, calls < CALLS);
    }

    private void mostOpenings(int seed) {
        begin();
        while (model.told(4) <= 9000 && calls < CALLS) {
            sixtyHours(seed);
        }
        CHECK.due("openings end at 9999", codes.gate(0, 3), 9999);
        CHECK.isSo("within " + CALLS + " calls: " + calls, calls < CALLS);
    }

    private void due(String call, int got, int want) {
        calls++;
        CHECK.due(call, got, want);
    }

    /** The seed by which 60 hours open gate 0 most often and leave no noise. */
    private static int busiestSeed() {
        int best = 0;
        int most = -1;
        for (int seed = 0; seed < 20000; seed++) {
            RollingCodes codes = Check.on(STREET);
            codes.seed(seed);
            codes.drift(60);
            if (codes.told(8) == 0 && codes.gate(0, 3) > most) {
                most = codes.gate(0, 3);
                best = seed;
            }
        }
        return best;
    }
}
