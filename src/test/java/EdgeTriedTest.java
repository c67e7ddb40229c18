import java.util.List;

/** The boundary cases of what is tried (section 3) and of promises 20 to 27, sentence by sentence. */
public final class EdgeTriedTest {
    private static final Check CHECK = new Check("EdgeTriedTest");
    private static final int NONE = RollingCodes.NONE, UNKNOWN = RollingCodes.UNKNOWN, OUTSIDE = RollingCodes.OUTSIDE;

    public static void main(String[] args) {
        nothingChanges();
        opensAtLeastOnce();
        wouldOpenFrom();
        aheadNow();
        lockedFromNothing();
        lockedUpToSixty();
        lockedEachGate();
        lockedAsIfNextToIt();
        takesTheFirst();
        takesTheTenth();
        takesAsIfNextToIt();
        usefulEntries();
        usefulToTheWary();
        rowOfNothing();
        rowsUpToThree();
        rowOverEight();
        rowOfTheLesser();
        rowNotUseful();
        rowOfAnotherFob();
        rowAsOftenAsOneLikes();
        rowInReach();
        rowsKth();
        whoCould();
        whoOutside();
        sameCodes();
        sameTwo();
        bestPlace();
        bestPlaceOfLikeOnes();
        quietNights();
        quietOutside();
        CHECK.end();
    }

    private static void due(String call, int got, int want) {
        CHECK.due(call, got, want);
    }

    /** A wary gate that waits, a gate in noise, entries that are kept, a battery that is low. */
    private static RollingCodes busy() {
        RollingCodes c = Check.on("e5 9;g0 5 4;g3 6 20;g2 7 4;f0 5 9 0 10;f1 5 9 1 10;f2 3 4 2 10;f3 3 4 3 10;");
        c.noise(1, true);
        Check.pressTimes(c, 0, 5);
        c.noise(1, false);
        c.press(0);
        c.noise(0, true);
        c.keep(1);
        Check.pressTimes(c, 2, 45);
        c.see(0, 0);
        c.write(0, c.gate(0, 3));
        c.feed('e');
        c.seed(99);
        return c;
    }

    private static void nothingChanges() {
        CHECK.says("TRIED from now; nothing changes by it.");
        List<Integer> before = Probe.of(busy());
        RollingCodes c = busy();
        for (int f = 0; f < 4; f++) {
            for (int x = -1; x <= 9; x++) {
                c.wouldOpen(f, x);
            }
            for (int g = 0; g < 3; g++) {
                c.ahead(g, f);
                c.locked(g, f);
                c.takes(g, f);
                c.last(g, f);
                c.gate(g, 6);
            }
            c.fob(f, 6);
            c.same(f, (f + 1) % 4);
        }
        for (int i = 0; i < 8; i++) {
            c.who(c.kept(i));
            c.row(i - 2);
            c.quiet(i, 50);
            c.secrets(i % 3);
            c.code(i, i);
        }
        c.ask();
        c.judge();
        c.fault();
        CHECK.isSo("all is as it was", before.equals(Probe.of(c)));
    }

    private static void opensAtLeastOnce() {
        CHECK.says("WOULD OPEN: GATES (a SET) that OPEN at least once, if a FOB is PRESSED now; from another PLACE.");
        RollingCodes c = Check.on("e0 0;g1 5 1;g3 6 9;g0 4 4;f1 5 1 0 10;");
        due("eager: all, the first twice", c.wouldOpen(0, NONE), 7);
        c.step(0, 0);
        Check.pressTimes(c, 0, 2);
        due("eager, 4 ahead, from 5: the wary one by the second", c.wouldOpen(0, 5), 2);
        due("eager from 0", c.wouldOpen(0, NONE), 0);
        due("place", c.fob(0, 1), 0);
        due("eager, by the first alone", byTheFirstAlone().wouldOpen(1, NONE), 1);
    }

    /**
     * Eager fob 1 is locked out of the strict gate; the first code of its next press is that of fob 0's next count,
     * the second is no one's.
     */
    static RollingCodes byTheFirstAlone() {
        RollingCodes c = Check.on("e0 0;g1 5 1;f0 0 0 0 221;f1 5 0 1 15;");
        c.noise(0, true);
        Check.pressTimes(c, 1, 2);
        c.noise(0, false);
        return c;
    }

    private static void wouldOpenFrom() {
        CHECK.says("WOULD OPEN (from PLACE x, or NONE: where it is): a SET; 0 with a BATTERY of 0. UNKNOWN, OUTSIDE.");
        RollingCodes c = Check.on("e0 0;g0 0 1;g0 9 1;f0 5 0 0 10;");
        due("wouldOpen(0, -1)", c.wouldOpen(0, -1), 0);
        due("wouldOpen(0, 0)", c.wouldOpen(0, 0), 1);
        due("wouldOpen(0, 9)", c.wouldOpen(0, 9), 2);
        due("wouldOpen(0, 10)", c.wouldOpen(0, 10), OUTSIDE);
        due("wouldOpen(0, -2)", c.wouldOpen(0, -2), OUTSIDE);
        due("wouldOpen(1, 0)", c.wouldOpen(1, 0), UNKNOWN);
        due("wouldOpen(-1, 0)", c.wouldOpen(-1, 0), UNKNOWN);
        due("wouldOpen(1, 10)", c.wouldOpen(1, 10), UNKNOWN);
        c.noise(0, true);
        due("wouldOpen(0, 0) in noise", c.wouldOpen(0, 0), 0);
        c.noise(0, false);
        Check.pressTimes(c, 0, 60);
        c.teach(0, 0);
        due("wouldOpen(0, 0), battery 0", c.wouldOpen(0, 0), 0);
        due("wouldOpen(0, 10), battery 0", c.wouldOpen(0, 10), OUTSIDE);
        c.fill(0);
        due("wouldOpen(0, 0), filled", c.wouldOpen(0, 0), 1);
    }

    private static void aheadNow() {
        CHECK.says("AHEAD of a FOB at a GATE now.");
        RollingCodes c = Check.on("e0 0;g0 5 32;g0 4 1;f1 0 0 0 10;f3 0 0 1 10;");
        due("ahead(0, 0)", c.ahead(0, 0), 0);
        c.press(0);
        c.press(1);
        due("ahead(0, 0), pressed", c.ahead(0, 0), 2);
        due("ahead(0, 1), old", c.ahead(0, 1), 0);
        c.teach(1, 0);
        due("ahead(1, 0), taught", c.ahead(1, 0), 0);
        c.undo();
        due("ahead(1, 0), undone", c.ahead(1, 0), 2);
        CHECK.says("`int ahead(int g, int f)`: AHEAD. UNKNOWN.");
        due("ahead(2, 0)", c.ahead(2, 0), UNKNOWN);
        due("ahead(0, 2)", c.ahead(0, 2), UNKNOWN);
        due("ahead(-1, 0)", c.ahead(-1, 0), UNKNOWN);
        due("ahead(0, -1)", c.ahead(0, -1), UNKNOWN);
    }

    private static void lockedFromNothing() {
        CHECK.says("LOCKED: how often a FOB can be PRESSED in NOISE everywhere (0 .. 60 times) until PRESSED then it does not open a told GATE for the first time");
        due("0: old", Check.on("e0 0;g0 5 32;f3 5 0 0 10;").locked(0, 0), 0);
        RollingCodes c = Check.on("e0 0;g0 5 2;f0 0 0 0 10;");
        due("2: the window's", c.locked(0, 0), 2);
        c.press(0);
        due("1", c.locked(0, 0), 1);
        c.press(0);
        due("0: locked out", c.locked(0, 0), 0);
        c.press(0);
        due("0: still", c.locked(0, 0), 0);
        due("1: the least window", Check.on("e0 0;g0 5 1;f0 0 0 0 10;").locked(0, 0), 1);
        due("32: the greatest window", Check.on("e0 0;g0 5 32;f0 0 0 0 10;").locked(0, 0), 32);
    }

    /** Fob 1 has fob 0's secret: its window of the gate begins where fob 0's ends. */
    private static void lockedUpToSixty() {
        due("59", Check.on("e0 0;g0 5 32;f0 0 0 0 10;f0 0 0 0 37;").locked(0, 0), 59);
        due("60", Check.on("e0 0;g0 5 32;f0 0 0 0 10;f0 0 0 0 38;").locked(0, 0), 60);
        due("61 is none", Check.on("e0 0;g0 5 32;f0 0 0 0 10;f0 0 0 0 39;").locked(0, 0), NONE);
        due("old at a lax gate: none", Check.on("e0 0;g2 5 1;f3 0 0 0 10;").locked(0, 0), NONE);
    }

    private static void lockedEachGate() {
        RollingCodes c = Check.on("e0 0;g0 5 7;g1 5 7;g2 5 7;g3 5 7;f0 0 0 0 10;");
        int[] plain = {7, 1, 7, 4};
        int[] eager = {4, 1, 4, 4};
        RollingCodes twice = Check.on("e0 0;g0 5 7;g1 5 7;g2 5 7;g3 5 7;f1 0 0 0 10;");
        for (int g = 0; g < 4; g++) {
            due("plain fob, gate " + g, c.locked(g, 0), plain[g]);
            due("eager fob, gate " + g, twice.locked(g, 0), eager[g]);
        }
        CHECK.says("`int locked(int g, int f)`: LOCKED; NONE. UNKNOWN.");
        due("locked(4, 0)", c.locked(4, 0), UNKNOWN);
        due("locked(0, 1)", c.locked(0, 1), UNKNOWN);
        due("locked(-1, 0)", c.locked(-1, 0), UNKNOWN);
        due("locked(0, -1)", c.locked(0, -1), UNKNOWN);
    }

    private static void lockedAsIfNextToIt() {
        CHECK.says("(BATTERY 60 each time, as if next to the GATE, without NOISE); NONE.");
        RollingCodes c = Check.on("e0 0;g0 9 5;f2 0 0 0 10;");
        Check.pressTimes(c, 0, 60);
        c.teach(0, 0);
        c.noise(0, true);
        due("battery 0, far off, in noise", c.locked(0, 0), 5);
        RollingCodes waits = Check.on("e0 0;g3 0 9;f0 0 0 0 10;");
        waits.noise(0, true);
        Check.pressTimes(waits, 0, 4);
        waits.noise(0, false);
        due("wary, 4 ahead", waits.locked(0, 0), 0);
        waits.press(0);
        due("wary, it waits for the next", waits.locked(0, 0), 1);
        due("eager, by the first alone", byTheFirstAlone().locked(0, 1), 1);
    }

    private static void takesTheFirst() {
        CHECK.says("TAKES: by which press (1 .. 10, BATTERY 60 ahead of each, next to it, without NOISE) it opens the GATE first; NONE.");
        RollingCodes c = Check.on("e0 0;g0 5 1;g3 5 20;g1 5 1;f0 0 0 0 10;f3 0 0 1 10;f1 0 0 2 10;");
        due("the first", c.takes(0, 0), 1);
        due("old: none", c.takes(0, 1), NONE);
        Check.pressTimes(c, 0, 3);
        due("plain, locked out: none", c.takes(0, 0), NONE);
        due("wary, 4 ahead then: the first", c.takes(1, 0), 1);
        c.press(0);
        due("wary, 5 ahead then: the second", c.takes(1, 0), 2);
        Check.pressTimes(c, 2, 2);
        due("wary, eager, 5 and 6 ahead then: the first", c.takes(1, 2), 1);
        due("strict, eager, locked out: none", c.takes(2, 2), NONE);
        due("eager, by the first alone", byTheFirstAlone().takes(0, 1), 1);
    }

    private static void takesTheTenth() {
        for (int press = 1; press <= 10; press++) {
            RollingCodes c = Check.on("e0 0;g1 5 1;f0 0 0 0 10;f0 0 0 0 " + (10 + press) + ";");
            c.press(0);
            due("press " + press, c.takes(0, 0), press);
        }
        RollingCodes c = Check.on("e0 0;g1 5 1;f0 0 0 0 10;f0 0 0 0 21;");
        c.press(0);
        due("the eleventh is none", c.takes(0, 0), NONE);
    }

    private static void takesAsIfNextToIt() {
        RollingCodes c = Check.on("e0 0;g3 9 20;f2 0 0 0 10;");
        Check.pressTimes(c, 0, 55);
        c.teach(0, 0);
        Check.pressTimes(c, 0, 5);
        c.noise(0, true);
        due("battery 0, far off, in noise", c.takes(0, 0), 2);
        CHECK.says("`int takes(int g, int f)`: TAKES; NONE. UNKNOWN.");
        due("takes(1, 0)", c.takes(1, 0), UNKNOWN);
        due("takes(0, 1)", c.takes(0, 1), UNKNOWN);
        due("takes(-1, 0)", c.takes(-1, 0), UNKNOWN);
        due("takes(0, -1)", c.takes(0, -1), UNKNOWN);
    }

    private static void usefulEntries() {
        CHECK.says("USEFUL at a GATE: entries THE EAR keeps (a SET; 0 the latest) which, sent again now, would open it, wherever THE EAR is, NOISE or not.");
        RollingCodes c = Check.on("e9 0;g0 0 32;g0 0 8;g1 0 8;g2 0 1;f0 9 0 0 10;");
        due("nothing kept", c.gate(0, 6), 0);
        c.press(0);
        due("one kept", c.gate(0, 6), 1);
        due("one kept, strict", c.gate(2, 6), 1);
        Check.pressTimes(c, 0, 7);
        due("eight kept, all", c.gate(0, 6), 255);
        due("eight kept, a window of eight", c.gate(1, 6), 255);
        due("eight kept, strict", c.gate(2, 6), 128);
        c.press(0);
        due("nine heard, window 32", c.gate(0, 6), 255);
        due("nine heard, window 8", c.gate(1, 6), 254);
        due("nine heard, strict", c.gate(2, 6), 0);
        c.teach(3, 0);
        due("lax, the latest is the last", c.gate(3, 6), 1);
        c.noise(0, true);
        c.earTo(5);
        due("noise or not, wherever", c.gate(0, 6), 255);
    }

    private static void usefulToTheWary() {
        RollingCodes c = Check.on("e9 0;g3 9 32;f0 9 0 0 10;");
        c.noise(0, true);
        Check.pressTimes(c, 0, 8);
        due("counts 11 to 14 of 18", c.gate(0, 6), 0b11110000);
        c.noise(0, false);
        c.again(3);
        due("it waits for 16", c.gate(0, 5), 16);
        due("16 as well", c.gate(0, 6), 0b11110100);
    }

    private static void rowOfNothing() {
        CHECK.says("ROW: the fewest entries THE EAR keeps, USEFUL or not, one behind the other (3 at most, any as often as one likes), "
                + "sent again from where THE EAR is, so that each GATE it can reach (not in NOISE) OPENS at least once: "
                + "how many; the k-th of the first such row (entry by entry the lesser); NONE.");
        due("no street", new RollingCodes().row(NONE), 0);
        due("no gates", Check.on("e5 9;f0 5 9 0 10;").row(NONE), 0);
        RollingCodes c = Check.on("e5 0;g0 5 3;f0 5 0 0 10;");
        due("a gate, nothing kept", c.row(NONE), NONE);
        due("a gate, nothing kept: the first", c.row(0), NONE);
        c.noise(0, true);
        due("the gate is in noise", c.row(NONE), 0);
        due("the gate is in noise: the first", c.row(0), NONE);
    }

    private static void rowsUpToThree() {
        for (int many = 1; many <= 3; many++) {
            RollingCodes c = TriedTest.eachItsOwn(many);
            due(many + " are needed", c.row(NONE), many);
            for (int k = 0; k < many; k++) {
                due(many + " are needed: " + k, c.row(k), k);
            }
            due(many + " are needed: one more", c.row(many), NONE);
        }
        RollingCodes four = TriedTest.eachItsOwn(4);
        due("four are needed", four.row(NONE), NONE);
        due("four are needed: the first", four.row(0), NONE);
    }

    private static void rowOverEight() {
        RollingCodes c = Check.on("e5 0;g1 5 1;f0 5 0 0 10;");
        c.noise(0, true);
        Check.pressTimes(c, 0, 8);
        c.noise(0, false);
        due("the oldest alone", c.row(NONE), 1);
        due("the oldest alone: which", c.row(0), 7);
        c.noise(0, true);
        c.press(0);
        c.noise(0, false);
        due("it is lost", c.row(NONE), NONE);
    }

    private static void rowOfTheLesser() {
        RollingCodes c = Check.on("e5 0;g2 5 1;f3 5 0 0 10;f0 5 0 1 10;");
        Check.pressTimes(c, 0, 3);
        due("three alike", c.row(NONE), 1);
        due("the least of three alike", c.row(0), 0);
        c.teach(0, 1);
        c.noise(0, true);
        Check.pressTimes(c, 1, 2);
        due("in noise", c.row(NONE), 0);
        c.noise(0, false);
        due("the useful one, not the latest", c.row(0), 1);
    }

    /** The ear keeps counts 17 to 24, all far ahead of 10: one is to wait behind, the next opens. */
    private static void rowNotUseful() {
        RollingCodes c = Check.on("e5 0;g3 5 20;f0 5 0 0 10;");
        c.noise(0, true);
        Check.pressTimes(c, 0, 14);
        c.noise(0, false);
        due("none is useful", c.gate(0, 6), 0);
        due("it does not wait: how many", c.row(NONE), 2);
        due("it does not wait: the first", c.row(0), 1);
        due("it does not wait: the second", c.row(1), 0);
        c.again(0);
        due("it waits for 25", c.gate(0, 5), 25);
        due("it waits for 25: how many", c.row(NONE), 2);
        due("it waits for 25: the first", c.row(0), 1);
        c.again(3);
        due("it waits for 22", c.gate(0, 5), 22);
        due("it waits for 22: how many", c.row(NONE), 1);
        due("it waits for 22: the first", c.row(0), 2);
    }

    /** The gate waits for count 16 of fob 0; the ear keeps counts 15 and 16 of fob 1, which is as far ahead. */
    private static void rowOfAnotherFob() {
        RollingCodes c = Check.on("e0 0;g3 5 20;f0 5 0 0 10;f0 4 0 1 10;");
        c.noise(0, true);
        Check.pressTimes(c, 0, 4);
        c.noise(0, false);
        c.press(0);
        Check.pressTimes(c, 1, 4);
        c.earTo(4);
        Check.pressTimes(c, 1, 2);
        c.earTo(5);
        due("it waits for fob 0", c.gate(0, 4), 0);
        due("it waits for count 16", c.gate(0, 5), 16);
        due("kept", c.told(7), 2);
        due("how many", c.row(NONE), 2);
        due("the first", c.row(0), 1);
        due("the second", c.row(1), 0);
    }

    /**
     * Codes X, Y: of fob 0 at counts 20, 21, of fob 1 at 367, 366. Wary gate 0 is behind with fob 0 and wants X, Y;
     * gate 1 is behind with fob 1 and wants Y, X. The ear keeps Y (0) and X (1): the row is Y, X, Y.
     */
    private static void rowAsOftenAsOneLikes() {
        RollingCodes c = Check.on("e9 0;g3 5 8;g3 5 8;f0 0 0 240 15;f0 0 0 243 361;");
        Check.pressTimes(c, 0, 4);
        c.earTo(0);
        Check.pressTimes(c, 0, 2);
        c.earTo(4);
        Check.pressTimes(c, 1, 10);
        c.teach(0, 1);
        c.teach(1, 0);
        due("not in reach", c.row(NONE), 0);
        c.earTo(5);
        due("useful at 0", c.gate(0, 6), 0);
        due("useful at 1", c.gate(1, 6), 0);
        due("three", c.row(NONE), 3);
        int[] want = {0, 1, 0};
        int opened = 0;
        for (int k = 0; k < 3; k++) {
            due("the row: " + k, c.row(k), want[k]);
        }
        for (int entry : want) {
            opened |= c.again(entry);
        }
        due("it opens both", opened, 3);
    }

    private static void rowInReach() {
        RollingCodes c = Check.on("e5 2;g0 3 1;g0 7 1;g0 2 1;g0 8 1;f0 5 0 0 10;");
        c.press(0);
        due("the gates are not at hand, the ear hears", c.told(7), 1);
        c.teach(2, 0);
        c.teach(3, 0);
        due("3 off need not open", c.row(NONE), 1);
        c.teach(1, 0);
        due("2 off above must open", c.row(NONE), NONE);
        c.noise(1, true);
        due("2 off above is in noise", c.row(NONE), 1);
        c.teach(0, 0);
        due("2 off below must open", c.row(NONE), NONE);
        c.noise(0, true);
        due("none is to open", c.row(NONE), 0);
        c.earTo(4);
        due("from 4: 2 off below must open", c.row(NONE), NONE);
        c.earTo(5);
        due("from 5: none is to open", c.row(NONE), 0);
        c.earTo(6);
        due("from 6: 2 off above must open", c.row(NONE), NONE);
    }

    private static void rowsKth() {
        CHECK.says("ROW: k = NONE how many, else the k-th; NONE: not so many.");
        RollingCodes c = TriedTest.eachItsOwn(3);
        due("row(-1)", c.row(-1), 3);
        due("row(0)", c.row(0), 0);
        due("row(2)", c.row(2), 2);
        due("row(3)", c.row(3), NONE);
        due("row(4)", c.row(4), NONE);
        due("row(-2)", c.row(-2), NONE);
        due("row(MIN)", c.row(Integer.MIN_VALUE), NONE);
        due("row(MAX)", c.row(Integer.MAX_VALUE), NONE);
    }

    private static void whoCould() {
        CHECK.says("WHO: FOBS (a SET) that could send a CODE (0 .. 508) by one of their next 40 counts (COUNT and 1 on; an old one: COUNT alone).");
        RollingCodes c = Check.on("e0 0;f0 0 0 0 10;f1 0 0 0 10;f2 0 0 0 10;f3 0 0 0 10;f3 0 0 0 11;");
        due("COUNT", c.who(c.code(0, 10)), 8);
        due("COUNT and 1", c.who(c.code(0, 11)), 7 + 16);
        due("COUNT and 2", c.who(c.code(0, 12)), 7);
        due("COUNT and 40", c.who(c.code(0, 50)), 7);
        due("COUNT and 41", c.who(c.code(0, 51)), 0);
        c.press(1);
        due("COUNT and 41 of an eager one, pressed", c.who(c.code(0, 51)), 2);
        due("COUNT and 42 of an eager one, pressed", c.who(c.code(0, 52)), 2);
        due("COUNT and 43 of an eager one, pressed", c.who(c.code(0, 53)), 0);
        Check.pressTimes(c, 0, 60);
        due("with a battery of 0", c.who(c.code(0, 71)), 1);
    }

    private static void whoOutside() {
        CHECK.says("WHO (a SET). OUTSIDE.");
        RollingCodes c = Check.on("e0 0;f3 0 0 0 0;f3 0 0 0 274;");
        due("who(0)", c.who(0), 1);
        due("who(508)", c.who(508), 2);
        due("who(-1)", c.who(-1), OUTSIDE);
        due("who(509)", c.who(509), OUTSIDE);
        due("who(MIN)", c.who(Integer.MIN_VALUE), OUTSIDE);
        due("who(MAX)", c.who(Integer.MAX_VALUE), OUTSIDE);
        RollingCodes none = new RollingCodes();
        due("who(0), no street", none.who(0), 0);
        due("who(509), no street", none.who(509), OUTSIDE);
    }

    /** Secrets 0 and 1 at counts a and b have like codes k on where k = 13 (a - b) - 61 - b, left over by 509. */
    private static void sameCodes() {
        CHECK.says("SAME of two FOBS: the least k (1 .. 200) for which the CODES of COUNT and k of both are alike; NONE.");
        int[][] rows = {{8, 3, 1}, {33, 12, 200}, {32, 11, NONE}, {9, 4, NONE}};
        for (int[] r : rows) {
            RollingCodes c = Check.on("e0 0;f0 0 0 0 " + r[0] + ";f0 0 0 1 " + r[1] + ";");
            due("counts " + r[0] + ", " + r[1], c.same(0, 1), r[2]);
            due("counts " + r[1] + ", " + r[0], c.same(1, 0), r[2]);
        }
        due("the same secret and count", Check.on("e0 0;f0 0 0 7 9;f1 0 0 7 9;").same(0, 1), 1);
        due("the same secret, never", Check.on("e0 0;f0 0 0 7 9;f1 0 0 7 10;").same(0, 1), NONE);
    }

    private static void sameTwo() {
        CHECK.says("`int same(int f, int h)`: SAME; NONE. UNKNOWN.");
        RollingCodes c = Check.on("e0 0;f0 0 0 7 9;f0 0 0 7 9;");
        due("same(0, 1)", c.same(0, 1), 1);
        due("same(0, 0)", c.same(0, 0), UNKNOWN);
        due("same(1, 1)", c.same(1, 1), UNKNOWN);
        due("same(2, 2)", c.same(2, 2), UNKNOWN);
        due("same(0, 2)", c.same(0, 2), UNKNOWN);
        due("same(2, 0)", c.same(2, 0), UNKNOWN);
        due("same(-1, 0)", c.same(-1, 0), UNKNOWN);
        due("same(0, -1)", c.same(0, -1), UNKNOWN);
        due("same(0, 0), no street", new RollingCodes().same(0, 0), UNKNOWN);
    }

    private static void bestPlace() {
        CHECK.says("BEST PLACE of a FOB: from which, PRESSED now, it would open most GATES; of like ones the least PLACE.");
        due("none opens", Check.on("e0 0;f0 5 0 0 10;").fob(0, 6), 0);
        due("the least", Check.on("e0 0;g0 0 1;f0 5 0 0 10;").fob(0, 6), 0);
        due("the least, with a range", Check.on("e0 0;g0 0 1;f0 5 1 0 10;").fob(0, 6), 0);
        due("the greatest", Check.on("e0 0;g0 9 1;f0 5 0 0 10;").fob(0, 6), 9);
        due("the greatest, with a range", Check.on("e0 0;g0 9 1;g0 8 1;g0 7 1;f0 5 1 0 10;").fob(0, 6), 8);
        due("two are more than one", Check.on("e0 0;g0 1 1;g0 7 1;g0 9 1;f0 5 1 0 10;").fob(0, 6), 8);
        due("twice is not more", Check.on("e0 0;g1 2 1;g1 6 1;f1 5 0 0 10;").fob(0, 6), 2);
        RollingCodes c = Check.on("e0 0;g0 3 2;g0 7 9;f0 0 0 0 10;");
        due("both open", c.fob(0, 6), 3);
        Check.pressTimes(c, 0, 2);
        due("the first does not open", c.fob(0, 6), 7);
        c.noise(1, true);
        due("the other is in noise", c.fob(0, 6), 0);
        c.noise(1, false);
        Check.pressTimes(c, 0, 58);
        c.teach(1, 0);
        due("a battery of 0", c.fob(0, 6), 0);
    }

    private static void bestPlaceOfLikeOnes() {
        due("all alike", Check.on("e0 0;g0 9 1;f0 5 9 0 10;").fob(0, 6), 0);
        due("three like ones", Check.on("e0 0;g0 5 1;f0 9 1 0 10;").fob(0, 6), 4);
        due("two gates, two like ones", Check.on("e0 0;g0 2 1;g0 9 1;f0 5 0 0 10;").fob(0, 6), 2);
    }

    private static void quietNights() {
        CHECK.says("QUIET: odds of n quiet nights (0 .. 60), each by q of a hundred (0 .. 100): a BILLION times q / 100 each (cut).");
        RollingCodes c = new RollingCodes();
        due("quiet(0, 0)", c.quiet(0, 0), 1000000000);
        due("quiet(0, 100)", c.quiet(0, 100), 1000000000);
        due("quiet(1, 0)", c.quiet(1, 0), 0);
        due("quiet(1, 1)", c.quiet(1, 1), 10000000);
        due("quiet(1, 99)", c.quiet(1, 99), 990000000);
        due("quiet(1, 100)", c.quiet(1, 100), 1000000000);
        due("quiet(60, 100)", c.quiet(60, 100), 1000000000);
        due("quiet(60, 0)", c.quiet(60, 0), 0);
        due("quiet(4, 1)", c.quiet(4, 1), 10);
        due("quiet(5, 1)", c.quiet(5, 1), 0);
        due("quiet(6, 43), cut each night", c.quiet(6, 43), 6321362);
        due("quiet(60, 99), cut each night", c.quiet(60, 99), 547156620);
    }

    private static void quietOutside() {
        CHECK.says("QUIET. OUTSIDE.");
        RollingCodes c = new RollingCodes();
        due("quiet(-1, 50)", c.quiet(-1, 50), OUTSIDE);
        due("quiet(61, 50)", c.quiet(61, 50), OUTSIDE);
        due("quiet(1, -1)", c.quiet(1, -1), OUTSIDE);
        due("quiet(1, 101)", c.quiet(1, 101), OUTSIDE);
        due("quiet(0, 101)", c.quiet(0, 101), OUTSIDE);
        due("quiet(MAX, MIN)", c.quiet(Integer.MAX_VALUE, Integer.MIN_VALUE), OUTSIDE);
    }
}
