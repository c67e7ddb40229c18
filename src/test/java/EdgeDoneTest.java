import java.util.List;

/** The boundary cases of section 2 and of promises 6 to 19, sentence by sentence; counts over 9999 are EdgeWrapTest's. */
public final class EdgeDoneTest {
    private static final Check CHECK = new Check("EdgeDoneTest");
    private static final int NONE = RollingCodes.NONE, UNKNOWN = RollingCodes.UNKNOWN, OUTSIDE = RollingCodes.OUTSIDE;
    private static final int NOT = RollingCodes.NOT;

    public static void main(String[] args) {
        codes();
        codesOutside();
        batteryAtFirst();
        theLastOfTheBattery();
        eachKindTakesOne();
        eagerSendsTwice();
        tiredBelowTwenty();
        tiredHalvesAreCut();
        othersDoNotTire();
        oldStays();
        heardNoFartherOff();
        heardByRangeOfNothing();
        heardAcrossTheStreet();
        notHeardInNoise();
        theEarsOwnRange();
        theEarKeepsEight();
        theEarKeepsTheLatestOfTwo();
        aheadOfLast();
        windowOfPlain();
        windowOfStrict();
        windowOfLax();
        laxTakesTheLastAgain();
        fobsRising();
        waryAboveFour();
        waryWindow();
        waryWaitsForJustTheNext();
        waryInPlace();
        waryAheadOfAllElse();
        opensAndWaitsNoMore();
        anyOtherCode();
        setsOfGates();
        theFobsFace();
        theGatesFace();
        lastOfAFob();
        whatIsKept();
        pressing();
        stepping();
        theEarSteps();
        noise();
        teaching();
        sendingAgain();
        filling();
        CHECK.end();
    }

    private static void due(String call, int got, int want) {
        CHECK.due(call, got, want);
    }

    /** A street with one gate and one fob side by side, the fob so many counts ahead when it is pressed next. */
    private static RollingCodes pressedNext(String gate, int ahead) {
        RollingCodes c = Check.on("e5 0;" + gate + "f0 5 0 0 10;");
        c.noise(0, true);
        Check.pressTimes(c, 0, ahead - 1);
        c.noise(0, false);
        return c;
    }

    /** A press that the gate hears with the count so far ahead, and what it waits for then. */
    private static void heardAhead(String gate, int ahead, boolean opens, int waits) {
        RollingCodes c = pressedNext(gate, ahead);
        String what = gate + " " + ahead + " ahead: ";
        due(what + "press(0)", c.press(0), opens ? 1 : 0);
        due(what + "last(0, 0)", c.last(0, 0), opens ? 10 + ahead : 10);
        due(what + "openings", c.gate(0, 3), opens ? 1 : 0);
        due(what + "waits for fob", c.gate(0, 4), waits == NONE ? NONE : 0);
        due(what + "waits for count", c.gate(0, 5), waits);
    }

    private static void codes() {
        CHECK.says("CODE by SECRET S and COUNT c (0 .. 9999): S times 61, and c times 13, and S times c, left over by 509.");
        RollingCodes c = new RollingCodes();
        due("code(0, 0)", c.code(0, 0), 0);
        due("code(0, 39)", c.code(0, 39), 507);
        due("code(0, 40), left over", c.code(0, 40), 11);
        due("code(0, 274), the greatest", c.code(0, 274), 508);
        due("code(0, 509), nothing left over", c.code(0, 509), 0);
        due("code(255, 0)", c.code(255, 0), 285);
        due("code(0, 9999)", c.code(0, 9999), 192);
        due("code(255, 9999)", c.code(255, 9999), 132);
        due("code(254, 1)", c.code(254, 1), (254 * 61 + 13 + 254) % 509);
    }

    private static void codesOutside() {
        CHECK.says("CODE (s 0 .. 255, c 0 .. 9999). OUTSIDE.");
        RollingCodes c = new RollingCodes();
        due("code(-1, 0)", c.code(-1, 0), OUTSIDE);
        due("code(256, 0)", c.code(256, 0), OUTSIDE);
        due("code(0, -1)", c.code(0, -1), OUTSIDE);
        due("code(0, 10000)", c.code(0, 10000), OUTSIDE);
        due("code(MIN, MAX)", c.code(Integer.MIN_VALUE, Integer.MAX_VALUE), OUTSIDE);
        due("code(MAX, MIN)", c.code(Integer.MAX_VALUE, Integer.MIN_VALUE), OUTSIDE);
    }

    private static void batteryAtFirst() {
        CHECK.says("A FOB has a BATTERY (60 at first).");
        RollingCodes c = Check.on("e0 0;f0 0 0 0 0;f1 0 0 0 0;f2 0 0 0 0;f3 0 0 0 0;f0 0 0 0 0;");
        for (int f = 0; f < 5; f++) {
            due("fob(" + f + ", 5)", c.fob(f, 5), 60);
        }
    }

    private static void theLastOfTheBattery() {
        CHECK.says("PRESSED, its BATTERY being above 0: the BATTERY is 1 less");
        for (int kind = 0; kind <= 3; kind++) {
            RollingCodes c = Check.on("e5 0;g2 5 9;f" + kind + " 5 0 0 10;");
            Check.pressTimes(c, 0, 59);
            due("kind " + kind + ": battery of 1", c.fob(0, 5), 1);
            due("kind " + kind + ": wouldOpen with 1", c.wouldOpen(0, NONE), 1);
            due("kind " + kind + ": press with 1", c.press(0), 1);
            due("kind " + kind + ": battery of 0", c.fob(0, 5), 0);
            int count = c.fob(0, 4);
            due("kind " + kind + ": press with 0", c.press(0), NOT);
            due("kind " + kind + ": count with 0", c.fob(0, 4), count);
            due("kind " + kind + ": battery stays 0", c.fob(0, 5), 0);
            due("kind " + kind + ": wouldOpen with 0", c.wouldOpen(0, NONE), 0);
        }
    }

    private static void eachKindTakesOne() {
        RollingCodes c = Check.on("e0 0;f0 0 0 0 10;f1 0 0 0 10;f2 0 0 0 10;f3 0 0 0 10;");
        int[] counts = {11, 12, 11, 10};
        for (int f = 0; f < 4; f++) {
            c.press(f);
            due("battery of kind " + f, c.fob(f, 5), 59);
            due("count of kind " + f, c.fob(f, 4), counts[f]);
        }
    }

    private static void eagerSendsTwice() {
        CHECK.says("1 (eager): twice so, one behind the other.");
        RollingCodes c = Check.on("e5 0;g1 5 1;f1 5 0 0 10;");
        due("press(0)", c.press(0), 1);
        due("the gate opens by both", c.gate(0, 3), 2);
        due("last", c.last(0, 0), 12);
        due("kept(0), the second", c.kept(0), 156);
        due("kept(1), the first", c.kept(1), 143);
        RollingCodes half = Check.on("e5 0;g3 5 9;f1 5 0 0 10;");
        half.noise(0, true);
        Check.pressTimes(half, 0, 2);
        half.noise(0, false);
        due("far ahead: the first is waited behind, the second opens", half.press(0), 1);
        due("far ahead: openings", half.gate(0, 3), 1);
        due("far ahead: last", half.last(0, 0), 16);
        eagerOpensByTheFirst();
    }

    private static void eagerOpensByTheFirst() {
        RollingCodes c = EdgeTriedTest.byTheFirstAlone();
        due("by the first alone", c.press(1), 1);
        due("by the first alone: openings", c.gate(0, 3), 1);
        due("by the first alone: last of 0", c.last(0, 0), 222);
        due("by the first alone: last of 1", c.last(0, 1), 15);
    }

    private static void tiredBelowTwenty() {
        CHECK.says("2 (tired): as plain, but with a BATTERY below 20 (behind the press) RANGE is half (cut) for it.");
        RollingCodes c = Check.on("e9 0;g0 4 9;g0 5 9;g0 9 9;f2 0 9 0 10;");
        Check.pressTimes(c, 0, 39);
        due("battery 21: wouldOpen", c.wouldOpen(0, NONE), 7);
        due("battery 21, 20 behind the press", c.press(0), 7);
        due("battery 20", c.fob(0, 5), 20);
        due("the ear hears from afar", c.kept(0), c.code(0, 50));
        due("battery 20: wouldOpen", c.wouldOpen(0, NONE), 1);
        due("battery 20: wouldOpen from 1", c.wouldOpen(0, 1), 3);
        due("battery 20: best place", c.fob(0, 6), 5);
        due("battery 20, 19 behind the press", c.press(0), 1);
        due("battery 19", c.fob(0, 5), 19);
        due("the ear does not hear from afar", c.kept(0), c.code(0, 50));
        due("the count goes on", c.fob(0, 4), 51);
        due("the range as told", c.fob(0, 2), 9);
        Check.pressTimes(c, 0, 18);
        due("battery 1, 0 behind the press", c.press(0), 1);
        due("battery 0", c.fob(0, 5), 0);
        c.fill(0);
        due("filled", c.press(0) & 4, 0);
        c.teach(2, 0);
        due("filled and taught", c.press(0) & 4, 4);
    }

    private static void tiredHalvesAreCut() {
        int[] halves = {0, 0, 1, 1, 2, 2, 3, 3, 4, 4};
        for (int range = 0; range <= 9; range++) {
            int half = halves[range];
            RollingCodes c = Check.on("e0 0;g0 " + half + " 1;g0 " + (half + 1) + " 1;f2 0 " + range + " 0 10;");
            Check.pressTimes(c, 0, 41);
            c.teach(0, 0);
            c.teach(1, 0);
            due("half of range " + range, c.press(0), 1);
        }
    }

    private static void othersDoNotTire() {
        for (int kind : new int[] {0, 1, 3}) {
            RollingCodes c = Check.on("e0 0;g2 9 9;f" + kind + " 0 9 0 10;");
            Check.pressTimes(c, 0, 59);
            due("kind " + kind + " with a battery of 1", c.press(0), 1);
        }
    }

    private static void oldStays() {
        CHECK.says("3 (old): the COUNT stays, its CODE is sent.");
        RollingCodes c = Check.on("e5 0;g2 5 1;g0 5 32;f3 5 0 0 0;");
        Check.pressTimes(c, 0, 59);
        due("count 0", c.fob(0, 4), 0);
        due("kept(0)", c.kept(0), 0);
        due("kept(7)", c.kept(7), 0);
        due("press(0): a plain gate never opens to it", c.press(0), 1);
        due("battery", c.fob(0, 5), 0);
    }

    private static void heardNoFartherOff() {
        CHECK.says("SENT from a PLACE with a RANGE, a CODE is heard by GATES (rising; but those in NOISE) and by THE EAR no farther off than that");
        RollingCodes c = Check.on("e8 0;g0 2 3;g0 1 3;g0 8 3;g0 9 3;f0 5 3 0 10;");
        due("range 3 from 5: 2 and 8, not 1 and 9", c.press(0), 5);
        due("the ear at 8 hears", c.told(7), 1);
        c.earTo(9);
        c.press(0);
        due("the ear at 9 does not hear", c.told(7), 1);
        c.earTo(2);
        c.press(0);
        due("the ear at 2 hears", c.told(7), 2);
        c.earTo(1);
        c.press(0);
        due("the ear at 1 does not hear", c.told(7), 2);
    }

    private static void heardByRangeOfNothing() {
        RollingCodes c = Check.on("e4 0;g0 4 3;g0 5 3;g0 6 3;f0 5 0 0 10;");
        due("range 0: its own place alone", c.press(0), 2);
        due("range 0: the ear next to it", c.told(7), 0);
        c.earTo(5);
        c.press(0);
        due("range 0: the ear at its place", c.told(7), 1);
    }

    private static void heardAcrossTheStreet() {
        RollingCodes c = Check.on("e9 0;g0 0 3;g0 9 3;f0 0 9 0 10;f0 9 8 1 10;");
        due("range 9 from 0", c.press(0), 3);
        due("range 9 from 0: the ear at 9", c.told(7), 1);
        due("range 8 from 9", c.press(1), 2);
    }

    private static void notHeardInNoise() {
        RollingCodes c = Check.on("e5 0;g0 5 3;g3 5 9;f0 5 0 0 10;");
        c.noise(0, true);
        due("noise at 0", c.press(0), 2);
        due("the ear hears all the same", c.told(7), 1);
        due("last at 0", c.last(0, 0), 10);
        due("last at 1", c.last(1, 0), 11);
        c.noise(1, true);
        Check.pressTimes(c, 0, 5);
        due("a gate in noise does not begin to wait", c.gate(1, 4), NONE);
        due("openings", c.told(9), 1);
    }

    private static void theEarsOwnRange() {
        CHECK.says("THE EAR hears by its own RANGE, if that is more.");
        int[][] heard = {
            // the ear's range, the fob's range, how far off, whether it is heard
            {4, 2, 4, 1}, {4, 2, 5, 0}, {2, 4, 4, 1}, {2, 4, 5, 0}, {3, 3, 3, 1}, {3, 3, 4, 0}, {9, 0, 9, 1}, {0, 9, 9, 1}, {0, 0, 0, 1}, {0, 0, 1, 0}};
        for (int[] h : heard) {
            RollingCodes c = Check.on("e" + h[2] + " " + h[0] + ";f0 0 " + h[1] + " 0 10;");
            c.press(0);
            due("the ear's range " + h[0] + ", the fob's " + h[1] + ", " + h[2] + " off", c.told(7), h[3]);
        }
        RollingCodes gates = Check.on("e0 9;g0 3 3;f0 0 2 0 10;");
        due("a gate does not hear by the ear's range", gates.press(0), 0);
    }

    private static void theEarKeepsEight() {
        CHECK.says("THE EAR keeps the latest 8.");
        RollingCodes c = Check.on("e5 0;f0 5 0 0 10;");
        for (int pressed = 1; pressed <= 20; pressed++) {
            c.press(0);
            int keeps = Math.min(pressed, 8);
            due("told(7), pressed " + pressed, c.told(7), keeps);
            for (int i = 0; i < keeps; i++) {
                due("kept(" + i + "), pressed " + pressed, c.kept(i), c.code(0, 10 + pressed - i));
            }
            due("kept(" + keeps + "), pressed " + pressed, c.kept(keeps), NONE);
        }
    }

    private static void theEarKeepsTheLatestOfTwo() {
        RollingCodes c = Check.on("e5 0;f0 5 0 0 10;f1 5 0 0 100;");
        Check.pressTimes(c, 0, 7);
        c.press(1);
        due("told(7)", c.told(7), 8);
        due("kept(0)", c.kept(0), c.code(0, 102));
        due("kept(1)", c.kept(1), c.code(0, 101));
        due("kept(2)", c.kept(2), c.code(0, 17));
        due("kept(7), the first is lost", c.kept(7), c.code(0, 12));
    }

    private static void aheadOfLast() {
        CHECK.says("AHEAD is how much a count is more than LAST (9999 less goes on to 0: left over by 10000).");
        RollingCodes c = Check.on("e5 9;g0 5 1;f0 5 9 0 10;f0 5 9 0 10;");
        due("ahead(0, 0)", c.ahead(0, 0), 0);
        c.press(1);
        due("ahead(0, 0), last is 1 more", c.ahead(0, 0), 9999);
        due("ahead(0, 1), opened as fob 0's", c.ahead(0, 1), 1);
        c.press(1);
        due("ahead(0, 0), last is 2 more", c.ahead(0, 0), 9998);
        due("ahead(0, 1)", c.ahead(0, 1), 2);
    }

    private static void windowOfPlain() {
        CHECK.says("for each through AHEAD 1 to WINDOW (counts LAST and that), rising, to the first where the CODE is that of the count.");
        heardAhead("g0 5 1;", 1, true, NONE);
        heardAhead("g0 5 1;", 2, false, NONE);
        heardAhead("g0 5 2;", 2, true, NONE);
        heardAhead("g0 5 2;", 3, false, NONE);
        heardAhead("g0 5 32;", 1, true, NONE);
        heardAhead("g0 5 32;", 31, true, NONE);
        heardAhead("g0 5 32;", 32, true, NONE);
        heardAhead("g0 5 32;", 33, false, NONE);
        RollingCodes c = pressedNext("g0 5 32;", 1);
        c.press(0);
        due("0 ahead", c.again(0), 0);
        c.press(0);
        due("9999 ahead", c.again(1), 0);
    }

    private static void windowOfStrict() {
        CHECK.says("1 (strict): WINDOW counts as 1.");
        heardAhead("g1 5 1;", 1, true, NONE);
        heardAhead("g1 5 1;", 2, false, NONE);
        heardAhead("g1 5 32;", 1, true, NONE);
        heardAhead("g1 5 32;", 2, false, NONE);
        RollingCodes c = pressedNext("g1 5 32;", 1);
        c.press(0);
        due("0 ahead", c.again(0), 0);
    }

    private static void windowOfLax() {
        CHECK.says("2 (lax): AHEAD 0 counts as well, ahead of 1.");
        heardAhead("g2 5 1;", 1, true, NONE);
        heardAhead("g2 5 1;", 2, false, NONE);
        heardAhead("g2 5 32;", 5, true, NONE);
        heardAhead("g2 5 32;", 32, true, NONE);
        heardAhead("g2 5 32;", 33, false, NONE);
    }

    private static void laxTakesTheLastAgain() {
        RollingCodes c = pressedNext("g2 5 1;", 1);
        due("1 ahead", c.press(0), 1);
        due("0 ahead", c.again(0), 1);
        due("0 ahead again", c.again(0), 1);
        due("last", c.last(0, 0), 11);
        due("openings", c.gate(0, 3), 3);
        c.press(0);
        due("9999 ahead", c.again(1), 0);
        RollingCodes taught = Check.on("e5 0;g2 5 1;f3 5 0 0 10;f0 5 0 0 9;");
        due("0 ahead as taught", taught.press(0), 1);
        due("fob 0's 0 ahead, not fob 1's 1 ahead", taught.last(0, 1), 9);
        RollingCodes other = Check.on("e5 0;g2 5 4;f0 5 0 0 10;f3 5 0 0 14;");
        due("fob 0's 4 ahead", other.press(1), 1);
        due("fob 0's 4 ahead, not fob 1's 0 ahead", other.last(0, 0), 14);
    }

    private static void fobsRising() {
        CHECK.says("A GATE that hears a CODE goes through FOBS, rising");
        RollingCodes c = Check.on("e5 0;g0 5 4;f0 5 0 0 10;f0 5 0 0 13;f0 5 0 0 12;");
        due("count 14 is 4, 1, 2 ahead", c.press(1), 1);
        due("last of 0", c.last(0, 0), 14);
        due("last of 1", c.last(0, 1), 13);
        due("last of 2", c.last(0, 2), 12);
        c.press(1);
        due("count 15 is fob 0's still", c.last(0, 0), 15);
        RollingCodes out = Check.on("e5 0;g0 5 3;f0 5 0 0 10;f0 5 0 0 13;f0 5 0 0 12;");
        out.press(1);
        due("count 14 is out of fob 0's window", out.last(0, 0), 10);
        due("count 14 is fob 1's", out.last(0, 1), 14);
        due("count 14 is not fob 2's", out.last(0, 2), 12);
    }

    private static void waryAboveFour() {
        CHECK.says("3 (wary): with AHEAD above 4 it does not OPEN but WAITS (in place of what it waited for) for just the next count of that FOB, LAST stays");
        heardAhead("g3 5 32;", 1, true, NONE);
        heardAhead("g3 5 32;", 4, true, NONE);
        heardAhead("g3 5 32;", 5, false, 16);
        heardAhead("g3 5 32;", 6, false, 17);
        RollingCodes c = pressedNext("g3 5 32;", 1);
        c.press(0);
        due("0 ahead", c.again(0), 0);
    }

    private static void waryWindow() {
        heardAhead("g3 5 32;", 32, false, 43);
        heardAhead("g3 5 32;", 33, false, NONE);
        heardAhead("g3 5 4;", 4, true, NONE);
        heardAhead("g3 5 4;", 5, false, NONE);
        heardAhead("g3 5 5;", 5, false, 16);
        heardAhead("g3 5 5;", 6, false, NONE);
        heardAhead("g3 5 1;", 2, false, NONE);
        RollingCodes c = pressedNext("g3 5 5;", 5);
        c.press(0);
        due("the next is out of the window, but waited for", c.press(0), 1);
        due("last", c.last(0, 0), 16);
    }

    private static void waryWaitsForJustTheNext() {
        CHECK.says("to the CODE of the count it WAITS for (looked at ahead of all else) it OPENS.");
        RollingCodes next = pressedNext("g3 5 32;", 5);
        next.press(0);
        due("the same again", next.again(0), 0);
        due("it waits as before", next.gate(0, 5), 16);
        due("the next", next.press(0), 1);
        due("last", next.last(0, 0), 16);
        RollingCodes over = pressedNext("g3 5 32;", 5);
        over.press(0);
        over.noise(0, true);
        over.press(0);
        over.noise(0, false);
        due("the one behind the next", over.press(0), 0);
        due("it waits in place", over.gate(0, 5), 18);
        due("what it waited for is far ahead now", over.again(1), 0);
        due("it waits for the next of that", over.gate(0, 5), 17);
        due("and that one opens", over.again(0), 1);
    }

    private static void waryInPlace() {
        RollingCodes c = Check.on("e5 0;g3 5 32;f0 5 0 0 10;f0 5 0 1 10;");
        c.noise(0, true);
        Check.pressTimes(c, 0, 4);
        Check.pressTimes(c, 1, 4);
        c.noise(0, false);
        c.press(0);
        due("waits for fob 0", c.gate(0, 4), 0);
        due("waits for its 16th", c.gate(0, 5), 16);
        c.press(1);
        due("waits for fob 1 in place", c.gate(0, 4), 1);
        due("waits for its 16th too", c.gate(0, 5), 16);
        due("fob 0's next does not open", c.press(0), 0);
        due("waits for fob 0 again", c.gate(0, 4), 0);
        due("waits for its 17th", c.gate(0, 5), 17);
    }

    private static void waryAheadOfAllElse() {
        RollingCodes c = Check.on("e5 0;g3 5 20;f0 0 0 0 15;f0 5 0 0 10;");
        c.noise(0, true);
        Check.pressTimes(c, 1, 4);
        c.noise(0, false);
        c.press(1);
        due("waits for fob 1", c.gate(0, 4), 1);
        due("count 16 is fob 0's 1 ahead, too", c.press(1), 1);
        due("last of 1", c.last(0, 1), 16);
        due("last of 0", c.last(0, 0), 15);
        due("waits no more", c.gate(0, 4), NONE);
    }

    private static void opensAndWaitsNoMore() {
        CHECK.says("OPENS: LAST becomes the count; openings of the GATE are one more (9999 at most); it WAITS no more.");
        RollingCodes c = Check.on("e5 0;g3 5 32;f0 5 0 0 10;f0 5 0 1 10;");
        c.noise(0, true);
        Check.pressTimes(c, 0, 4);
        c.noise(0, false);
        c.press(0);
        due("another fob opens", c.press(1), 1);
        due("last", c.last(0, 1), 11);
        due("openings", c.gate(0, 3), 1);
        due("waits for no fob", c.gate(0, 4), NONE);
        due("waits for no count", c.gate(0, 5), NONE);
        due("what it waited for", c.press(0), 0);
        due("is far ahead again", c.gate(0, 5), 17);
        RollingCodes low = Check.on("e5 0;g3 5 32;f0 5 0 0 10;");
        low.noise(0, true);
        Check.pressTimes(low, 0, 4);
        low.noise(0, false);
        low.press(0);
        due("an earlier one opens", low.again(1), 1);
        due("last is the earlier one", low.last(0, 0), 14);
        due("waits no more", low.gate(0, 5), NONE);
        due("15 is 1 ahead now", low.again(0), 1);
    }

    private static void anyOtherCode() {
        CHECK.says("With any other CODE nothing is changed.");
        RollingCodes c = Check.on("e5 9;g0 5 32;g1 5 32;g2 5 32;g3 5 32;f3 9 9 0 10;f0 5 9 1 10;");
        c.noise(3, true);
        Check.pressTimes(c, 1, 5);
        c.noise(3, false);
        c.press(1);
        c.teach(2, 0);
        c.noise(2, true);
        due("the wary gate waits", c.gate(3, 5), 17);
        List<Integer> gates = gatesOf(c);
        due("press(0), it is no gate's", c.press(0), 0);
        CHECK.isSo("the gates are as they were", gates.equals(gatesOf(c)));
        due("again(0), it is no gate's", c.again(0), 0);
        CHECK.isSo("the gates are as they were then", gates.equals(gatesOf(c)));
    }

    private static List<Integer> gatesOf(RollingCodes c) {
        List<Integer> rows = new java.util.ArrayList<>();
        for (int g = 0; g < c.told(1); g++) {
            for (int what = 0; what <= 5; what++) {
                rows.add(c.gate(g, what));
            }
            for (int f = 0; f < c.told(2); f++) {
                rows.add(c.last(g, f));
            }
        }
        return rows;
    }

    private static void setsOfGates() {
        CHECK.says("A SET is a whole number, bit k for k.");
        RollingCodes c = Check.on("e0 9;g2 0 1;g2 3 1;g2 6 1;g2 9 1;f3 0 0 0 10;");
        int[] places = {0, 3, 6, 9};
        for (int g = 0; g < 4; g++) {
            due("wouldOpen(0, " + places[g] + ")", c.wouldOpen(0, places[g]), 1 << g);
            c.step(0, places[g]);
            due("press(0) at " + places[g], c.press(0), 1 << g);
            due("noise(" + g + ", true)", c.noise(g, true), (1 << g + 1) - 1);
        }
        due("told(8)", c.told(8), 15);
        for (int g = 0; g < 4; g++) {
            due("noise(" + g + ", false)", c.noise(g, false), 15 & -1 << g + 1);
        }
        due("again(0)", c.again(0), 15);
    }

    private static void theFobsFace() {
        CHECK.says("Of a FOB: what = 0 KIND, 1 the PLACE, 2 RANGE, 3 SECRET, 4 COUNT, 5 BATTERY, 6 BEST PLACE. UNKNOWN, OUTSIDE.");
        RollingCodes c = Check.on("e0 0;g0 8 1;f2 4 3 200 100;f0 0 9 0 0;");
        int[] want = {2, 4, 3, 200, 100, 60, 5};
        for (int what = 0; what <= 6; what++) {
            due("fob(0, " + what + ")", c.fob(0, what), want[what]);
        }
        due("fob(1, 2)", c.fob(1, 2), 9);
        due("fob(-1, 0)", c.fob(-1, 0), UNKNOWN);
        due("fob(2, 0)", c.fob(2, 0), UNKNOWN);
        due("fob(0, -1)", c.fob(0, -1), OUTSIDE);
        due("fob(0, 7)", c.fob(0, 7), OUTSIDE);
        due("fob(2, 7)", c.fob(2, 7), UNKNOWN);
        due("fob(-1, -1)", c.fob(-1, -1), UNKNOWN);
        due("fob(5, 0), five there", Check.on("e0 0;" + "f0 0 0 0 0;".repeat(5)).fob(5, 0), UNKNOWN);
        due("fob(4, 0), five there", Check.on("e0 0;" + "f0 0 0 0 0;".repeat(4) + "f3 0 0 0 0;").fob(4, 0), 3);
        due("fob(0, 0), none there", Check.on("e0 0;").fob(0, 0), UNKNOWN);
    }

    private static void theGatesFace() {
        CHECK.says("Of a GATE: what = 0 KIND, 1 the PLACE, 2 WINDOW, 3 openings, 4 the FOB for which it WAITS (NONE), 5 the count for which (NONE), 6 USEFUL. UNKNOWN, OUTSIDE.");
        RollingCodes c = Check.on("e0 9;g3 8 12;g1 0 32;f0 4 9 200 0;f0 4 9 0 100;");
        c.press(0);
        c.noise(0, true);
        Check.pressTimes(c, 1, 4);
        c.noise(0, false);
        c.press(1);
        int[] want = {3, 8, 12, 1, 1, 106, 0b11110};
        for (int what = 0; what <= 6; what++) {
            due("gate(0, " + what + ")", c.gate(0, what), want[what]);
        }
        due("gate(1, 2), strict, as told", c.gate(1, 2), 32);
        due("gate(1, 4)", c.gate(1, 4), NONE);
        due("gate(1, 5)", c.gate(1, 5), NONE);
        due("gate(-1, 0)", c.gate(-1, 0), UNKNOWN);
        due("gate(2, 0)", c.gate(2, 0), UNKNOWN);
        due("gate(0, -1)", c.gate(0, -1), OUTSIDE);
        due("gate(0, 7)", c.gate(0, 7), OUTSIDE);
        due("gate(2, 7)", c.gate(2, 7), UNKNOWN);
        due("gate(-1, -1)", c.gate(-1, -1), UNKNOWN);
        due("gate(4, 0), four there", Check.on("e0 0;" + "g0 0 1;".repeat(4)).gate(4, 0), UNKNOWN);
        due("gate(3, 0), four there", Check.on("e0 0;" + "g0 0 1;".repeat(3) + "g2 0 1;").gate(3, 0), 2);
        due("gate(0, 0), none there", Check.on("e0 0;").gate(0, 0), UNKNOWN);
    }

    private static void lastOfAFob() {
        CHECK.says("LAST of a FOB at a GATE. UNKNOWN.");
        RollingCodes c = Check.on("e0 0;" + "g0 0 1;".repeat(4) + "f0 0 0 0 1;f0 0 0 0 2;f0 0 0 0 3;f0 0 0 0 4;f0 0 0 0 999;");
        due("last(3, 4)", c.last(3, 4), 999);
        due("last(0, 0)", c.last(0, 0), 1);
        due("last(4, 0)", c.last(4, 0), UNKNOWN);
        due("last(0, 5)", c.last(0, 5), UNKNOWN);
        due("last(-1, 0)", c.last(-1, 0), UNKNOWN);
        due("last(0, -1)", c.last(0, -1), UNKNOWN);
        due("last(0, 0), no fobs", Check.on("e0 0;g0 0 1;").last(0, 0), UNKNOWN);
        due("last(0, 0), no gates", Check.on("e0 0;f0 0 0 0 1;").last(0, 0), UNKNOWN);
    }

    private static void whatIsKept() {
        CHECK.says("The CODE that THE EAR keeps (0 the latest); NONE.");
        RollingCodes c = Check.on("e0 0;f0 0 0 0 10;");
        due("kept(0), nothing", c.kept(0), NONE);
        c.press(0);
        due("kept(0), one", c.kept(0), 143);
        due("kept(1), one", c.kept(1), NONE);
        due("kept(-1)", c.kept(-1), NONE);
        Check.pressTimes(c, 0, 7);
        due("kept(0), eight", c.kept(0), 234);
        due("kept(7), eight", c.kept(7), 143);
        due("kept(8), eight", c.kept(8), NONE);
        due("kept(MIN)", c.kept(Integer.MIN_VALUE), NONE);
        due("kept(MAX)", c.kept(Integer.MAX_VALUE), NONE);
    }

    private static void pressing() {
        CHECK.says("PRESSED: GATES that OPEN by it (a SET). UNKNOWN, NOT: BATTERY 0.");
        RollingCodes c = Check.on("e0 9;g0 5 1;g1 5 1;g2 5 1;g3 5 1;f0 5 0 0 10;f3 5 0 1 10;");
        due("press(0), all", c.press(0), 15);
        due("press(1), the lax one", c.press(1), 4);
        c.step(0, 4);
        due("press(0), none", c.press(0), 0);
        due("press(-1)", c.press(-1), UNKNOWN);
        due("press(2)", c.press(2), UNKNOWN);
        due("press(0), no fobs", Check.on("e0 0;").press(0), UNKNOWN);
        Check.pressTimes(c, 0, 58);
        due("press(0), battery 0", c.press(0), NOT);
    }

    private static void stepping() {
        CHECK.says("STEPS (0 .. 9): the PLACE where it was. UNKNOWN, OUTSIDE, NOT: it is there.");
        RollingCodes c = Check.on("e0 0;f0 5 0 0 10;f0 9 0 0 10;");
        due("step(0, -1)", c.step(0, -1), OUTSIDE);
        due("step(0, 10)", c.step(0, 10), OUTSIDE);
        due("step(0, 5)", c.step(0, 5), NOT);
        due("step(0, 0)", c.step(0, 0), 5);
        due("step(0, 0) again", c.step(0, 0), NOT);
        due("step(0, 9)", c.step(0, 9), 0);
        due("step(0, 8)", c.step(0, 8), 9);
        due("place", c.fob(0, 1), 8);
        due("place of the other", c.fob(1, 1), 9);
        due("step(2, 0)", c.step(2, 0), UNKNOWN);
        due("step(-1, 10)", c.step(-1, 10), UNKNOWN);
        due("told(12)", c.told(12), 3);
    }

    private static void theEarSteps() {
        CHECK.says("THE EAR STEPS (0 .. 9): the PLACE where it was. OUTSIDE, NOT: no STREET; it is there.");
        RollingCodes c = Check.on("e5 0;");
        due("earTo(-1)", c.earTo(-1), OUTSIDE);
        due("earTo(10)", c.earTo(10), OUTSIDE);
        due("earTo(5)", c.earTo(5), NOT);
        due("earTo(0)", c.earTo(0), 5);
        due("earTo(0) again", c.earTo(0), NOT);
        due("earTo(9)", c.earTo(9), 0);
        due("told(5)", c.told(5), 9);
        RollingCodes none = new RollingCodes();
        for (int x = 0; x <= 9; x++) {
            due("earTo(" + x + "), no street", none.earTo(x), NOT);
        }
        due("earTo(-1), no street", none.earTo(-1), OUTSIDE);
        due("earTo(10), no street", none.earTo(10), OUTSIDE);
    }

    private static void noise() {
        CHECK.says("NOISE begins (1), or ends (0): GATES in NOISE (a SET). UNKNOWN, NOT: it is so.");
        RollingCodes c = Check.on("e0 0;" + "g0 0 1;".repeat(4));
        due("noise(0, false), none yet", c.noise(0, false), NOT);
        due("noise(3, true)", c.noise(3, true), 8);
        due("noise(3, true) again", c.noise(3, true), NOT);
        due("noise(0, true)", c.noise(0, true), 9);
        due("noise(3, false)", c.noise(3, false), 1);
        due("noise(3, false) again", c.noise(3, false), NOT);
        due("noise(0, false)", c.noise(0, false), 0);
        due("noise(4, true)", c.noise(4, true), UNKNOWN);
        due("noise(4, false)", c.noise(4, false), UNKNOWN);
        due("noise(-1, true)", c.noise(-1, true), UNKNOWN);
        due("noise(-1, false)", c.noise(-1, false), UNKNOWN);
        due("noise(32, false)", c.noise(32, false), UNKNOWN);
    }

    private static void teaching() {
        CHECK.says("TAUGHT: LAST of a FOB at a GATE is its COUNT now.");
        RollingCodes c = Check.on("e0 0;g0 5 1;g0 5 1;f0 0 0 0 10;f0 0 0 0 20;");
        Check.pressTimes(c, 0, 3);
        Check.pressTimes(c, 1, 3);
        due("teach(1, 0)", c.teach(1, 0), 13);
        due("last(1, 0)", c.last(1, 0), 13);
        due("last(0, 0)", c.last(0, 0), 10);
        due("last(1, 1)", c.last(1, 1), 20);
        due("teach(1, 0), taught before", c.teach(1, 0), 13);
        CHECK.says("TAUGHT: LAST. UNKNOWN.");
        due("teach(2, 0)", c.teach(2, 0), UNKNOWN);
        due("teach(0, 2)", c.teach(0, 2), UNKNOWN);
        due("teach(-1, 0)", c.teach(-1, 0), UNKNOWN);
        due("teach(0, -1)", c.teach(0, -1), UNKNOWN);
        due("teach(2, 2)", c.teach(2, 2), UNKNOWN);
        c.noise(0, true);
        due("teach(0, 0) in noise, out of hearing", c.teach(0, 0), 13);
    }

    private static void sendingAgain() {
        CHECK.says("SENT AGAIN: THE EAR sends a CODE it keeps, from its PLACE, with its RANGE (it does not keep it anew).");
        RollingCodes c = Check.on("e5 2;g2 3 1;g2 2 1;g2 7 1;g2 8 1;f0 5 9 0 10;");
        c.press(0);
        due("range 2 from 5: 3 and 7, not 2 and 8", c.again(0), 5);
        due("told(7)", c.told(7), 1);
        due("kept(1)", c.kept(1), NONE);
        c.noise(0, true);
        due("noise at 0", c.again(0), 4);
        c.earTo(0);
        due("from 0: 2", c.again(0), 2);
        Check.pressTimes(c, 0, 7);
        due("kept(7), eight", c.kept(7), 143);
        c.again(7);
        due("kept(7), eight still", c.kept(7), 143);
        due("kept(0), the latest still", c.kept(0), c.code(0, 18));
        CHECK.says("SENT AGAIN: GATES that OPEN by it (a SET). UNKNOWN.");
        due("again(8)", c.again(8), UNKNOWN);
        due("again(-1)", c.again(-1), UNKNOWN);
        due("again(0), nothing kept", Check.on("e5 2;g2 3 1;").again(0), UNKNOWN);
        due("again(0), no street", new RollingCodes().again(0), UNKNOWN);
    }

    private static void filling() {
        CHECK.says("FILLED: what BATTERY was. UNKNOWN.");
        RollingCodes c = Check.on("e5 2;f1 5 9 0 10;f0 5 9 0 10;");
        due("fill(0), full", c.fill(0), 60);
        Check.pressTimes(c, 0, 1);
        due("fill(0), one less", c.fill(0), 59);
        Check.pressTimes(c, 0, 60);
        due("fill(0), empty", c.fill(0), 0);
        due("battery", c.fob(0, 5), 60);
        due("count", c.fob(0, 4), 132);
        due("fill(2)", c.fill(2), UNKNOWN);
        due("fill(-1)", c.fill(-1), UNKNOWN);
        due("the other's battery", c.fob(1, 5), 60);
    }
}
