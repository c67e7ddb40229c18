import java.util.ArrayList;
import java.util.List;

/**
 * All that an object can be brought to tell, one call behind the other: two objects with the same
 * probe are in the same state. The probe uses the object up: it undoes, goes back to images, reads the text.
 */
final class Probe {
    private final RollingCodes codes;
    private final List<Integer> rows = new ArrayList<>();

    private Probe(RollingCodes codes) {
        this.codes = codes;
    }

    static List<Integer> of(RollingCodes codes) {
        Probe probe = new Probe(codes);
        probe.askAll();
        probe.undoAll();
        probe.goBackTo(0);
        probe.goBackTo(1);
        probe.readText();
        return probe.rows;
    }

    private void askAll() {
        rows.addAll(Check.all(codes));
        for (int k = -1; k <= 3; k++) {
            rows.add(codes.row(k));
        }
        rows.add(codes.ask());
        for (int f = 0; f < codes.told(2); f++) {
            rows.add(codes.wouldOpen(f, -1));
            for (int g = 0; g < codes.told(1); g++) {
                rows.add(codes.ahead(g, f));
                rows.add(codes.locked(g, f));
                rows.add(codes.takes(g, f));
            }
        }
        askSeed();
    }

    private void askSeed() {
        int seed = codes.seed(0);
        rows.add(seed);
        codes.seed(seed);
    }

    private void undoAll() {
        int left = codes.told(12);
        for (int i = 0; i <= left; i++) {
            rows.add(codes.undo());
            rows.addAll(Check.scene(codes));
        }
        askSeed();
    }

    private void goBackTo(int image) {
        rows.add(codes.goBack(image));
        rows.addAll(Check.scene(codes));
        askSeed();
    }

    private void readText() {
        rows.add(codes.street());
        rows.addAll(Check.all(codes));
    }
}
