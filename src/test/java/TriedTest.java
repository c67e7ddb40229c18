import java.util.List;

/** Promises 20 to 27, BEST PLACE and USEFUL: what is tried and changes nothing. */
public final class TriedTest {
    private static final Check CHECK = new Check("TriedTest");

    public static void main(String[] args) {
        wouldOpen();
        bestPlace();
        ahead();
        locked();
        lockedFromNow();
        lockedByAnotherFobsWindow();
        takes();
        useful();
        rowOfNone();
        rowOfOne();
        rowOfTwo();
        rowOfThree();
        rowOfFour();
        rowByWhatIsNotUseful();
        who();
        same();
        quiet();
        nothingIsChanged();
        CHECK.end();
    }

    private static void due(String call, int got, int want) {
        CHECK.due(call, got, want);
    }

    private static void wouldOpen() {
        RollingCodes c = Check.on("e0 0;g0 2 3;g0 5 3;g3 8 9;f0 4 2 0 10;");
        due("wouldOpen(0, -1)", c.wouldOpen(0, -1), 3);
        due("wouldOpen(0, 0)", c.wouldOpen(0, 0), 1);
        due("wouldOpen(0, 7)", c.wouldOpen(0, 7), 6);
        due("wouldOpen(0, 9)", c.wouldOpen(0, 9), 4);
        due("wouldOpen(0, 10)", c.wouldOpen(0, 10), RollingCodes.OUTSIDE);
        due("wouldOpen(0, -2)", c.wouldOpen(0, -2), RollingCodes.OUTSIDE);
        due("wouldOpen(1, -2)", c.wouldOpen(1, -2), RollingCodes.UNKNOWN);
        c.noise(1, true);
        due("wouldOpen(0, 7) in noise", c.wouldOpen(0, 7), 4);
    }

    private static void bestPlace() {
        RollingCodes c = Check.on("e0 0;g0 2 3;g0 6 3;g0 8 9;f0 0 1 0 10;f0 0 0 1 10;f3 9 9 2 10;");
        due("best place, two at once", c.fob(0, 6), 7);
        due("best place, the least", c.fob(1, 6), 2);
        due("best place of one that opens none", c.fob(2, 6), 0);
    }

    private static void ahead() {
        RollingCodes c = Check.on("e0 0;g0 2 3;f1 9 0 0 10;");
        due("ahead(0, 0)", c.ahead(0, 0), 0);
        c.press(0);
        c.press(0);
        due("ahead(0, 0) then", c.ahead(0, 0), 4);
        due("ahead(1, 0)", c.ahead(1, 0), RollingCodes.UNKNOWN);
        due("ahead(0, 1)", c.ahead(0, 1), RollingCodes.UNKNOWN);
    }

    private static void locked() {
        RollingCodes c = Check.on("e0 0;g0 2 8;g1 4 8;g2 6 8;g3 9 20;f0 3 0 0 10;f1 5 0 1 10;f3 5 0 2 10;");
        due("locked: plain, plain", c.locked(0, 0), 8);
        due("locked: strict, plain", c.locked(1, 0), 1);
        due("locked: lax, plain", c.locked(2, 0), 8);
        due("locked: wary, plain", c.locked(3, 0), 4);
        due("locked: plain, eager", c.locked(0, 1), 4);
        due("locked: strict, eager", c.locked(1, 1), 1);
        due("locked: wary, eager, its eighth is fob 0's 23rd", c.locked(3, 1), 3);
        due("locked: wary, eager alone", Check.on("e0 0;g3 9 20;f1 5 0 1 10;").locked(0, 0), 10);
        due("locked: plain, old", c.locked(0, 2), 0);
        due("locked: lax, old", c.locked(2, 2), RollingCodes.NONE);
        due("locked(4, 0)", c.locked(4, 0), RollingCodes.UNKNOWN);
        due("locked(0, 3)", c.locked(0, 3), RollingCodes.UNKNOWN);
    }

    private static void lockedFromNow() {
        RollingCodes c = Check.on("e0 0;g0 2 8;g3 2 20;f0 3 0 0 10;");
        for (int i = 0; i < 3; i++) {
            c.press(0);
        }
        due("locked: plain, 3 ahead", c.locked(0, 0), 5);
        for (int i = 0; i < 57; i++) {
            c.press(0);
        }
        due("locked: with an empty battery", c.locked(0, 0), 0);
        c.teach(0, 0);
        due("locked: taught", c.locked(0, 0), 8);
        c.noise(0, true);
        due("locked: noise or not", c.locked(0, 0), 8);
    }

    /** Fob 1 has the same secret, so the gate opens to fob 0 by fob 1's window where its own ends. */
    private static void lockedByAnotherFobsWindow() {
        due("locked: 60", Check.on("e0 0;g0 2 32;f0 3 0 0 10;f0 3 0 0 38;").locked(0, 0), 60);
        due("locked: never", Check.on("e0 0;g0 2 32;f0 3 0 0 10;f0 3 0 0 39;").locked(0, 0), RollingCodes.NONE);
    }

    private static void takes() {
        RollingCodes c = Check.on("e0 0;g0 2 8;g1 2 8;g2 2 8;g3 2 20;f0 3 0 0 10;f1 3 0 1 10;f3 3 0 2 10;");
        due("takes: plain", c.takes(0, 0), 1);
        due("takes: lax, old", c.takes(2, 2), 1);
        due("takes: plain, old", c.takes(0, 2), RollingCodes.NONE);
        c.press(0);
        due("takes: plain, 1 ahead", c.takes(0, 0), 1);
        due("takes: strict, 1 ahead", c.takes(1, 0), RollingCodes.NONE);
        for (int i = 0; i < 4; i++) {
            c.press(0);
            c.press(1);
        }
        due("takes: wary, 5 ahead", c.takes(3, 0), 2);
        due("takes: wary, eager, 8 ahead", c.takes(3, 1), 1);
        RollingCodes tenth = Check.on("e0 0;g1 2 1;f0 3 0 0 10;f0 3 0 0 20;");
        tenth.press(0);
        due("takes: the tenth", tenth.takes(0, 0), 10);
        RollingCodes eleventh = Check.on("e0 0;g1 2 1;f0 3 0 0 10;f0 3 0 0 21;");
        eleventh.press(0);
        due("takes: the eleventh is none", eleventh.takes(0, 0), RollingCodes.NONE);
        due("takes(4, 0)", c.takes(4, 0), RollingCodes.UNKNOWN);
        due("takes(0, 3)", c.takes(0, 3), RollingCodes.UNKNOWN);
    }

    private static void useful() {
        RollingCodes c = Check.on("e9 0;g0 2 3;g1 2 3;g2 2 3;g3 2 20;f0 9 0 0 10;");
        due("useful: nothing kept", c.gate(0, 6), 0);
        for (int i = 0; i < 6; i++) {
            c.press(0);
        }
        due("useful: plain, counts 11 to 13", c.gate(0, 6), 0b111000);
        due("useful: strict, count 11", c.gate(1, 6), 0b100000);
        due("useful: lax", c.gate(2, 6), 0b111000);
        due("useful: wary, counts 11 to 14", c.gate(3, 6), 0b111100);
        c.noise(0, true);
        due("useful: noise or not", c.gate(0, 6), 0b111000);
        c.teach(2, 0);
        due("useful: lax, taught", c.gate(2, 6), 1);
        c.teach(0, 0);
        due("useful: plain, taught", c.gate(0, 6), 0);
    }

    private static void rowOfNone() {
        due("row: no street", new RollingCodes().row(-1), 0);
        RollingCodes c = Check.on("e5 0;g0 2 3;f0 9 9 0 10;");
        due("row: none in reach", c.row(-1), 0);
        due("row(0): none in reach", c.row(0), RollingCodes.NONE);
        c.earTo(2);
        due("row: nothing kept", c.row(-1), RollingCodes.NONE);
        c.noise(0, true);
        due("row: in noise", c.row(-1), 0);
    }

    private static void rowOfOne() {
        RollingCodes c = Check.on("e5 1;g0 5 3;g0 6 3;f0 9 0 0 10;");
        c.earTo(9);
        c.press(0);
        c.press(0);
        c.earTo(5);
        due("row: one", c.row(-1), 1);
        due("row: the lesser", c.row(0), 0);
        due("row(1)", c.row(1), RollingCodes.NONE);
        due("row(-2)", c.row(-2), RollingCodes.NONE);
        due("row(4)", c.row(4), RollingCodes.NONE);
        c.again(0);
        due("row: used up", c.row(-1), RollingCodes.NONE);
        due("row(0): used up", c.row(0), RollingCodes.NONE);
    }

    /** Gate 0 is taught fob 1's count, so it opens to fob 0 alone; gate 1 the other way round. */
    private static void rowOfTwo() {
        RollingCodes c = Check.on("e5 9;g0 5 1;g0 6 1;f0 5 0 0 10;f0 5 0 1 10;");
        c.noise(0, true);
        c.noise(1, true);
        c.press(0);
        c.press(1);
        c.noise(0, false);
        c.noise(1, false);
        c.teach(0, 1);
        c.teach(1, 0);
        due("row: two", c.row(-1), 2);
        due("row: two, the first", c.row(0), 0);
        due("row: two, the second", c.row(1), 1);
        due("row: two, no third", c.row(2), RollingCodes.NONE);
    }

    /** So many gates, each of which opens to one kept entry alone, gate 0 to the oldest. */
    static RollingCodes eachItsOwn(int many) {
        StringBuilder text = new StringBuilder("e5 9;");
        for (int i = 0; i < many; i++) {
            text.append("g1 5 1;f0 5 0 ").append(i).append(" 10;");
        }
        RollingCodes c = Check.on(text.toString());
        for (int g = 0; g < many; g++) {
            c.noise(g, true);
        }
        for (int f = 0; f < many; f++) {
            c.press(f);
        }
        for (int g = 0; g < many; g++) {
            c.noise(g, false);
            for (int f = 0; f < many; f++) {
                if (f != g) {
                    c.teach(g, f);
                }
            }
        }
        return c;
    }

    private static void rowOfThree() {
        RollingCodes c = eachItsOwn(3);
        due("row: three", c.row(-1), 3);
        due("row: three, 0", c.row(0), 0);
        due("row: three, 1", c.row(1), 1);
        due("row: three, 2", c.row(2), 2);
        due("row: three, 3", c.row(3), RollingCodes.NONE);
    }

    private static void rowOfFour() {
        due("row: four would be needed", eachItsOwn(4).row(-1), RollingCodes.NONE);
    }

    /** A wary gate far behind: no entry opens it, but two in a row do. */
    private static void rowByWhatIsNotUseful() {
        RollingCodes c = Check.on("e9 0;g3 5 20;f0 9 0 0 10;");
        for (int i = 0; i < 14; i++) {
            c.press(0);
        }
        due("row: wary, useful", c.gate(0, 6), 0);
        c.earTo(5);
        due("row: wary", c.row(-1), 2);
        due("row: wary, the first", c.row(0), 1);
        due("row: wary, the second", c.row(1), 0);
        due("row: wary, again(1)", c.again(1), 0);
        due("row: wary, again(0)", c.again(0), 1);
    }

    private static void who() {
        RollingCodes c = Check.on("e0 0;f0 0 0 0 10;f0 0 0 0 11;f3 0 0 0 10;");
        due("who: count 10", c.who(130), 4);
        due("who: count 11", c.who(143), 1);
        due("who: count 12", c.who(156), 3);
        due("who: count 50", c.who(650 - 509), 3);
        due("who: count 51", c.who(663 - 509), 2);
        due("who: count 52", c.who(676 - 509), 0);
        due("who(-1)", c.who(-1), RollingCodes.OUTSIDE);
        due("who(509)", c.who(509), RollingCodes.OUTSIDE);
        due("who(508)", c.who(508), 0);
        due("no street: who(0)", new RollingCodes().who(0), 0);
    }

    /** Of secrets 0 and 1 at counts a, b: 13 (a + k) and 61 + 14 (b + k) are alike for k = 13 (a - b) - 61 - b. */
    private static void same() {
        RollingCodes c = Check.on("e0 0;f0 0 0 0 16;f0 0 0 1 10;f3 0 0 0 30;f0 0 0 0 16;f0 0 0 1 11;");
        due("same(0, 1)", c.same(0, 1), 7);
        due("same(1, 0)", c.same(1, 0), 7);
        due("same(2, 1): counts on for an old one too", c.same(2, 1), 13 * 20 - 61 - 10);
        due("same(0, 3)", c.same(0, 3), 1);
        due("same(0, 2)", c.same(0, 2), RollingCodes.NONE);
        due("same(0, 4)", c.same(0, 4), RollingCodes.NONE);
        due("same(0, 0)", c.same(0, 0), RollingCodes.UNKNOWN);
        due("same(0, 5)", c.same(0, 5), RollingCodes.UNKNOWN);
        due("same(-1, 0)", c.same(-1, 0), RollingCodes.UNKNOWN);
    }

    private static void quiet() {
        RollingCodes c = new RollingCodes();
        due("quiet(0, 0)", c.quiet(0, 0), 1000000000);
        due("quiet(1, 0)", c.quiet(1, 0), 0);
        due("quiet(1, 50)", c.quiet(1, 50), 500000000);
        due("quiet(3, 90)", c.quiet(3, 90), 729000000);
        due("quiet(60, 100)", c.quiet(60, 100), 1000000000);
        due("quiet(5, 1)", c.quiet(5, 1), 0);
        due("quiet(5, 33)", c.quiet(5, 33), 3913539);
        due("quiet(6, 33)", c.quiet(6, 33), 1291467);
        due("quiet(-1, 50)", c.quiet(-1, 50), RollingCodes.OUTSIDE);
        due("quiet(61, 50)", c.quiet(61, 50), RollingCodes.OUTSIDE);
        due("quiet(1, -1)", c.quiet(1, -1), RollingCodes.OUTSIDE);
        due("quiet(1, 101)", c.quiet(1, 101), RollingCodes.OUTSIDE);
    }

    private static void nothingIsChanged() {
        RollingCodes c = Check.on("e5 9;g0 5 4;g3 6 20;g2 7 4;f0 5 9 0 10;f1 5 9 1 10;");
        c.noise(1, true);
        for (int i = 0; i < 5; i++) {
            c.press(0);
        }
        c.noise(1, false);
        c.press(0);
        List<Integer> before = Check.all(c);
        c.wouldOpen(0, -1);
        c.locked(1, 0);
        c.takes(1, 0);
        c.row(-1);
        c.row(0);
        c.who(3);
        c.same(0, 1);
        c.ask();
        CHECK.isSo("nothing is changed by what is tried", before.equals(Check.all(c)));
    }
}
