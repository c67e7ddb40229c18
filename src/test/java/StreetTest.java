import java.util.List;

/** Promises 1 to 10: the text, its faults, the street that is told. */
public final class StreetTest {
    private static final Check CHECK = new Check("StreetTest");
    private static final String STREET = "e5 2;g0 2 8;g3 9 20;f0 3 9 17 100;f1 5 3 200 7;f2 0 8 0 999;";

    public static void main(String[] args) {
        aNewObject();
        feeding();
        textsThatStand();
        misplaced();
        wrongNumbers();
        oneTooMany();
        ofSeveralTheLeast();
        aFaultChangesNothingElse();
        aNewStreetBeginsAnew();
        noStreetAgain();
        whatIsTold();
        codes();
        CHECK.end();
    }

    private static void aNewObject() {
        RollingCodes c = new RollingCodes();
        for (int what = 0; what <= 12; what++) {
            CHECK.due("new: told(" + what + ")", c.told(what), 0);
        }
        CHECK.due("new: fault()", c.fault(), RollingCodes.NONE);
        CHECK.due("new: fob(0, 0)", c.fob(0, 0), RollingCodes.UNKNOWN);
        CHECK.due("new: gate(0, 0)", c.gate(0, 0), RollingCodes.UNKNOWN);
        CHECK.due("new: last(0, 0)", c.last(0, 0), RollingCodes.UNKNOWN);
        CHECK.due("new: kept(0)", c.kept(0), RollingCodes.NONE);
        CHECK.due("new: press(0)", c.press(0), RollingCodes.UNKNOWN);
        CHECK.due("new: earTo(3)", c.earTo(3), RollingCodes.NOT);
        CHECK.due("new: drift(1)", c.drift(1), RollingCodes.NOT);
        CHECK.due("new: undo()", c.undo(), RollingCodes.NOT);
        CHECK.due("new: seed(9)", c.seed(9), 0);
    }

    private static void feeding() {
        RollingCodes c = new RollingCodes();
        CHECK.due("feed(-1)", c.feed(-1), RollingCodes.OUTSIDE);
        CHECK.due("feed(256)", c.feed(256), RollingCodes.OUTSIDE);
        CHECK.due("feed(0)", c.feed(0), 1);
        CHECK.due("feed(255)", c.feed(255), 2);
        for (int i = 3; i <= 240; i++) {
            CHECK.due("feed(32)", c.feed(32), i);
        }
        CHECK.due("feed behind 240", c.feed(32), RollingCodes.FULL);
        CHECK.due("feed(256) behind 240", c.feed(256), RollingCodes.OUTSIDE);
        CHECK.due("told(3)", c.told(3), 240);
        CHECK.due("street()", c.street(), -11);
        CHECK.due("told(3) then", c.told(3), 0);
    }

    private static void reads(String text, int answer, int fault) {
        RollingCodes c = new RollingCodes();
        Check.feed(c, text);
        CHECK.due("street() of '" + text + "'", c.street(), answer);
        CHECK.due("fault() of '" + text + "'", c.fault(), fault);
        CHECK.due("told(3) behind '" + text + "'", c.told(3), 0);
    }

    private static void textsThatStand() {
        reads("", 0, -1);
        reads("    ", 0, -1);
        reads("e5 2;", 0, -1);
        reads("  e 5   2 ;  ", 0, -1);
        reads("e005 002;", 0, -1);
        reads("e9 9;g3 9 32;f3 9 9 255 999;", 1, -1);
        reads("e0 0;f0 0 0 0 0;g0 0 1;", 1, -1);
        reads(STREET, 3, -1);
        reads("e0 0;g0 0 1;g0 0 1;g0 0 1;g0 0 1;", 0, -1);
        reads("e0 0;f0 0 0 0 0;f0 0 0 0 0;f0 0 0 0 0;f0 0 0 0 0;f0 0 0 0 0;", 5, -1);
        reads("e5 2;" + " ".repeat(235), 0, -1);
    }

    private static void misplaced() {
        reads("x", -11, 0);
        reads("E5 2;", -11, 0);
        reads("  g0 0 1;", -11, 2);
        reads("f0 0 0 0 0;", -11, 0);
        reads("5", -11, 0);
        reads(";", -11, 0);
        reads("e", -11, 1);
        reads("e5", -11, 2);
        reads("e5 ", -11, 3);
        reads("e5 2", -11, 4);
        reads("e5 2" + " ".repeat(236), -11, 240);
        reads("e5;", -11, 2);
        reads("e5 2 3;", -11, 5);
        reads("e5 2;;", -11, 5);
        reads("e5 2;7", -11, 5);
        reads("e5" + (char) 9 + "2;", -11, 2);
        reads("e5 2;" + (char) 233, -11, 5);
        reads("e5 2;" + (char) 0, -11, 5);
        reads("e-1 2;", -11, 1);
        reads("e0 0;g0 0;", -11, 9);
        reads("e0 0;f0 0 0 0;", -11, 13);
        reads("e0 0;g0 0 1g", -11, 11);
    }

    private static void wrongNumbers() {
        reads("e52;", -12, 1);
        reads("e 10 0;", -12, 2);
        reads("e0 10;", -12, 3);
        reads("e1234 0;", -12, 1);
        reads("e0000 0;", -12, 1);
        reads("e0 99999999999999999999;", -12, 3);
        reads("e4294967296 0;", -12, 1);
        reads("e10", -12, 1);
        reads("e10x", -12, 1);
        reads("e0 0;g4 0 1;", -12, 6);
        reads("e0 0;g0 10 1;", -12, 8);
        reads("e0 0;g0 0 0;", -12, 10);
        reads("e0 0;g0 0 33;", -12, 10);
        reads("e0 0;f4 0 0 0 0;", -12, 6);
        reads("e0 0;f0 10 0 0 0;", -12, 8);
        reads("e0 0;f0 0 10 0 0;", -12, 10);
        reads("e0 0;f0 0 0 256 0;", -12, 12);
        reads("e0 0;f0 0 0 0 1000;", -12, 14);
    }

    private static void oneTooMany() {
        reads("e0 0;e", -13, 5);
        reads("e0 0; e0 0;", -13, 6);
        reads("e0 0;g0 0 1;e", -13, 12);
        reads("e0 0;g0 0 1;g0 0 1;g0 0 1;g0 0 1;f0 0 0 0 0;g", -13, 44);
        reads("e0 0;f0 0 0 0 0;f0 0 0 0 0;f0 0 0 0 0;f0 0 0 0 0;f0 0 0 0 0;f", -13, 60);
    }

    private static void ofSeveralTheLeast() {
        reads("ee", -11, 1);
        reads("e0 0;ge", -11, 6);
        reads("e5 2 1234;", -11, 5);
        reads("e5 2;1234", -11, 5);
    }

    private static void aFaultChangesNothingElse() {
        RollingCodes c = Check.on(STREET);
        c.press(0);
        c.noise(1, true);
        c.see(1, 2);
        c.write(0, 1);
        c.earTo(7);
        List<Integer> before = Check.scene(c);
        Check.feed(c, "e0 0;x");
        CHECK.due("street() with a fault", c.street(), -11);
        CHECK.due("fault()", c.fault(), 5);
        CHECK.isSo("section 2 is as it was", before.equals(Check.scene(c)));
        CHECK.due("told(10)", c.told(10), 1);
        CHECK.due("told(11)", c.told(11), 1);
        CHECK.due("told(12)", c.told(12), 3);
        Check.feed(c, "e0 0;");
        CHECK.due("street()", c.street(), 0);
        CHECK.due("fault() then", c.fault(), RollingCodes.NONE);
    }

    private static void aNewStreetBeginsAnew() {
        RollingCodes c = Check.on(STREET);
        List<Integer> fresh = Check.all(c);
        c.press(0);
        c.press(1);
        c.noise(1, true);
        c.see(1, 2);
        c.write(0, 1);
        c.keep(0);
        c.keep(1);
        c.seed(77);
        c.drift(40);
        int seed = c.seed(5);
        c.seed(seed);
        Check.feed(c, STREET);
        CHECK.due("street() again", c.street(), 3);
        CHECK.isSo("all is as in a new street", fresh.equals(Check.all(c)));
        CHECK.due("goBack(0)", c.goBack(0), RollingCodes.NOT);
        CHECK.due("goBack(1)", c.goBack(1), RollingCodes.NOT);
        CHECK.due("undo()", c.undo(), RollingCodes.NOT);
        CHECK.due("the seed stays", c.seed(1), seed);
    }

    private static void noStreetAgain() {
        RollingCodes c = Check.on(STREET);
        c.press(0);
        c.keep(1);
        c.press(0);
        Check.feed(c, "  ");
        CHECK.due("street() of blanks", c.street(), 0);
        for (int what = 0; what <= 12; what++) {
            CHECK.due("no street: told(" + what + ")", c.told(what), 0);
        }
        CHECK.due("no street: fob(0, 4)", c.fob(0, 4), RollingCodes.UNKNOWN);
        CHECK.due("no street: gate(0, 3)", c.gate(0, 3), RollingCodes.UNKNOWN);
        CHECK.due("no street: goBack(1)", c.goBack(1), RollingCodes.NOT);
        CHECK.due("no street: drift(1)", c.drift(1), RollingCodes.NOT);
        CHECK.due("no street: earTo(1)", c.earTo(1), RollingCodes.NOT);
    }

    private static void whatIsTold() {
        RollingCodes c = Check.on(STREET);
        c.feed('e');
        row("told", new int[] {c.told(0), c.told(1), c.told(2), c.told(3), c.told(4), c.told(5), c.told(6)}, 1, 2, 3, 1, 0, 5, 2);
        row("told", new int[] {c.told(7), c.told(8), c.told(9), c.told(10), c.told(11), c.told(12)}, 0, 0, 0, 0, 0, 0);
        CHECK.due("told(-1)", c.told(-1), RollingCodes.OUTSIDE);
        CHECK.due("told(13)", c.told(13), RollingCodes.OUTSIDE);
        row("fob 1", new int[] {c.fob(1, 0), c.fob(1, 1), c.fob(1, 2), c.fob(1, 3), c.fob(1, 4), c.fob(1, 5)}, 1, 5, 3, 200, 7, 60);
        row("gate 1", new int[] {c.gate(1, 0), c.gate(1, 1), c.gate(1, 2), c.gate(1, 3), c.gate(1, 4), c.gate(1, 5)}, 3, 9, 20, 0, -1, -1);
        row("last", new int[] {c.last(0, 0), c.last(0, 1), c.last(0, 2), c.last(1, 0), c.last(1, 1), c.last(1, 2)}, 100, 7, 999, 100, 7, 999);
        CHECK.due("fob(3, 0)", c.fob(3, 0), RollingCodes.UNKNOWN);
        CHECK.due("fob(-1, 9)", c.fob(-1, 9), RollingCodes.UNKNOWN);
        CHECK.due("fob(0, 7)", c.fob(0, 7), RollingCodes.OUTSIDE);
        CHECK.due("fob(0, -1)", c.fob(0, -1), RollingCodes.OUTSIDE);
        CHECK.due("gate(2, 0)", c.gate(2, 0), RollingCodes.UNKNOWN);
        CHECK.due("gate(-1, 9)", c.gate(-1, 9), RollingCodes.UNKNOWN);
        CHECK.due("gate(0, 7)", c.gate(0, 7), RollingCodes.OUTSIDE);
        CHECK.due("gate(0, -1)", c.gate(0, -1), RollingCodes.OUTSIDE);
        CHECK.due("last(2, 0)", c.last(2, 0), RollingCodes.UNKNOWN);
        CHECK.due("last(0, 3)", c.last(0, 3), RollingCodes.UNKNOWN);
        c.press(0);
        c.noise(1, true);
        row("told then", new int[] {c.told(7), c.told(8), c.told(9), c.told(12)}, 1, 2, 2, 2);
        CHECK.due("kept(0)", c.kept(0), 504);
        CHECK.due("kept(1)", c.kept(1), RollingCodes.NONE);
        CHECK.due("kept(-1)", c.kept(-1), RollingCodes.NONE);
    }

    private static void row(String what, int[] got, int... want) {
        for (int i = 0; i < want.length; i++) {
            CHECK.due(what + ", " + i, got[i], want[i]);
        }
    }

    private static void codes() {
        RollingCodes c = new RollingCodes();
        CHECK.due("code(0, 0)", c.code(0, 0), 0);
        CHECK.due("code(1, 0)", c.code(1, 0), 61);
        CHECK.due("code(0, 1)", c.code(0, 1), 13);
        CHECK.due("code(1, 1)", c.code(1, 1), 75);
        CHECK.due("code(17, 101)", c.code(17, 101), 504);
        CHECK.due("code(255, 9999)", c.code(255, 9999), (255 * 61 + 9999 * 13 + 255 * 9999) % 509);
        CHECK.due("code(-1, 0)", c.code(-1, 0), RollingCodes.OUTSIDE);
        CHECK.due("code(256, 0)", c.code(256, 0), RollingCodes.OUTSIDE);
        CHECK.due("code(0, -1)", c.code(0, -1), RollingCodes.OUTSIDE);
        CHECK.due("code(0, 10000)", c.code(0, 10000), RollingCodes.OUTSIDE);
    }
}
