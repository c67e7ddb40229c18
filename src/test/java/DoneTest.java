import java.util.List;

/** Promises 11 to 19: presses, steps, noise, teaching, sending again, filling, hours, undone. */
public final class DoneTest {
    private static final Check CHECK = new Check("DoneTest");

    public static void main(String[] args) {
        plainFob();
        eagerFob();
        tiredFob();
        oldFob();
        emptyBattery();
        howFarItIsHeard();
        theEarKeepsEight();
        windows();
        strictGate();
        laxGate();
        waryGate();
        waryWaitsInPlace();
        waitedForAheadOfAll();
        fobsRising();
        stepsAndNoise();
        teaching();
        sentAgain();
        filling();
        hoursByDraws();
        hoursWithoutFobs();
        hoursAreFull();
        eachIsUndone();
        sixteenAreKept();
        CHECK.end();
    }

    private static void due(String call, int got, int want) {
        CHECK.due(call, got, want);
    }

    /** Presses that gate 0 does not hear. */
    private static void pressInNoise(RollingCodes c, int f, int times) {
        c.noise(0, true);
        Check.pressTimes(c, f, times);
        c.noise(0, false);
    }

    private static void plainFob() {
        RollingCodes c = Check.on("e5 0;g0 5 3;f0 5 0 0 10;");
        due("plain: press(0)", c.press(0), 1);
        due("plain: count", c.fob(0, 4), 11);
        due("plain: battery", c.fob(0, 5), 59);
        due("plain: kept(0)", c.kept(0), 143);
        due("plain: openings", c.gate(0, 3), 1);
        due("plain: last", c.last(0, 0), 11);
        due("press(1)", c.press(1), RollingCodes.UNKNOWN);
        due("press(-1)", c.press(-1), RollingCodes.UNKNOWN);
    }

    private static void eagerFob() {
        RollingCodes c = Check.on("e5 0;g1 5 3;f1 5 0 0 10;");
        due("eager: press(0)", c.press(0), 1);
        due("eager: count", c.fob(0, 4), 12);
        due("eager: battery", c.fob(0, 5), 59);
        due("eager: kept(0)", c.kept(0), 156);
        due("eager: kept(1)", c.kept(1), 143);
        due("eager: openings", c.gate(0, 3), 2);
        due("eager: last", c.last(0, 0), 12);
    }

    private static void tiredFob() {
        RollingCodes c = Check.on("e9 0;g0 9 3;g0 7 30;f2 5 5 0 10;");
        for (int i = 1; i <= 40; i++) {
            due("tired: press " + i, c.press(0), 3);
        }
        due("tired: battery", c.fob(0, 5), 20);
        due("tired: kept(0)", c.kept(0), 141);
        due("tired: would open", c.wouldOpen(0, -1), 2);
        due("tired: press 41", c.press(0), 2);
        due("tired: kept(0) then", c.kept(0), 141);
        due("tired: range", c.fob(0, 2), 5);
        due("tired: best place", c.fob(0, 6), 7);
        due("tired: fill(0)", c.fill(0), 19);
        due("tired: press 42", c.press(0), 3);
    }

    private static void oldFob() {
        RollingCodes c = Check.on("e5 0;g2 5 3;g0 5 3;f3 5 0 0 10;");
        due("old: press(0)", c.press(0), 1);
        due("old: press(0) again", c.press(0), 1);
        due("old: count", c.fob(0, 4), 10);
        due("old: battery", c.fob(0, 5), 58);
        due("old: kept(0)", c.kept(0), 130);
        due("old: kept(1)", c.kept(1), 130);
        due("old: openings of lax", c.gate(0, 3), 2);
        due("old: openings of plain", c.gate(1, 3), 0);
    }

    private static void emptyBattery() {
        RollingCodes c = Check.on("e5 0;g0 5 3;f1 5 0 0 10;");
        Check.pressTimes(c, 0, 60);
        due("empty: battery", c.fob(0, 5), 0);
        due("empty: count", c.fob(0, 4), 130);
        List<Integer> before = Check.all(c);
        due("empty: press(0)", c.press(0), RollingCodes.NOT);
        CHECK.isSo("empty: nothing is changed", before.equals(Check.all(c)));
        due("empty: wouldOpen", c.wouldOpen(0, -1), 0);
        due("empty: best place", c.fob(0, 6), 0);
        due("empty: fill(0)", c.fill(0), 0);
        due("empty: press(0) then", c.press(0), 1);
    }

    private static void howFarItIsHeard() {
        RollingCodes c = Check.on("e9 3;g0 2 3;g0 1 3;g0 8 3;g0 9 3;f0 5 3 0 10;");
        due("far: press(0)", c.press(0), 5);
        due("far: the ear does not hear", c.told(7), 0);
        c.earTo(8);
        c.press(0);
        due("far: the ear hears", c.told(7), 1);
        RollingCodes near = Check.on("e9 4;f0 5 0 0 10;");
        due("near: press(0)", near.press(0), 0);
        due("near: the ear hears by its own range", near.told(7), 1);
        RollingCodes off = Check.on("e9 3;f0 5 0 0 10;");
        off.press(0);
        due("off: the ear does not hear", off.told(7), 0);
    }

    private static void theEarKeepsEight() {
        RollingCodes c = Check.on("e5 0;f0 5 0 0 10;");
        Check.pressTimes(c, 0, 9);
        due("eight: told(7)", c.told(7), 8);
        due("eight: kept(0)", c.kept(0), 247);
        due("eight: kept(7)", c.kept(7), 156);
        due("eight: kept(8)", c.kept(8), RollingCodes.NONE);
        due("eight: again(8)", c.again(8), RollingCodes.UNKNOWN);
    }

    private static void windows() {
        RollingCodes c = Check.on("e0 0;g0 5 3;f0 5 0 0 10;");
        pressInNoise(c, 0, 2);
        due("window: 3 ahead", c.press(0), 1);
        due("window: last", c.last(0, 0), 13);
        pressInNoise(c, 0, 3);
        due("window: 4 ahead", c.press(0), 0);
        due("window: last stays", c.last(0, 0), 13);
        due("window: ahead", c.ahead(0, 0), 4);
    }

    private static void strictGate() {
        RollingCodes c = Check.on("e0 0;g1 5 8;f0 5 0 0 10;");
        due("strict: 1 ahead", c.press(0), 1);
        pressInNoise(c, 0, 1);
        due("strict: 2 ahead", c.press(0), 0);
        due("strict: window", c.gate(0, 2), 8);
    }

    private static void laxGate() {
        RollingCodes c = Check.on("e5 0;g2 5 3;g0 5 3;f0 5 0 0 10;");
        due("lax: press(0)", c.press(0), 3);
        due("lax: again(0)", c.again(0), 1);
        due("lax: openings", c.gate(0, 3), 2);
        due("lax: last", c.last(0, 0), 11);
        due("lax: press(0) then", c.press(0), 3);
        due("lax: again(1)", c.again(1), 0);
        pressInNoise(c, 0, 2);
        due("lax: 3 ahead", c.press(0), 3);
        pressInNoise(c, 0, 3);
        due("lax: 4 ahead", c.press(0) & 1, 0);
    }

    private static void waryGate() {
        RollingCodes c = Check.on("e0 0;g3 5 20;f0 5 0 0 10;");
        pressInNoise(c, 0, 3);
        due("wary: 4 ahead", c.press(0), 1);
        due("wary: last", c.last(0, 0), 14);
        pressInNoise(c, 0, 4);
        due("wary: 5 ahead", c.press(0), 0);
        due("wary: waits for fob", c.gate(0, 4), 0);
        due("wary: waits for count", c.gate(0, 5), 20);
        due("wary: last stays", c.last(0, 0), 14);
        due("wary: openings", c.gate(0, 3), 1);
        due("wary: the next", c.press(0), 1);
        due("wary: last then", c.last(0, 0), 20);
        due("wary: waits no more", c.gate(0, 4), RollingCodes.NONE);
        due("wary: for no count", c.gate(0, 5), RollingCodes.NONE);
        due("wary: openings then", c.gate(0, 3), 2);
    }

    private static void waryWaitsInPlace() {
        RollingCodes c = Check.on("e0 0;g3 5 8;f0 5 0 0 10;f0 5 0 1 10;");
        pressInNoise(c, 0, 4);
        c.press(0);
        due("in place: waits for", c.gate(0, 5), 16);
        pressInNoise(c, 0, 1);
        due("in place: 7 ahead", c.press(0), 0);
        due("in place: waits for then", c.gate(0, 5), 18);
        pressInNoise(c, 0, 1);
        due("in place: 9 ahead is out of the window", c.press(0), 0);
        due("in place: it still waits", c.gate(0, 5), 18);
        due("in place: another fob opens", c.press(1), 1);
        due("in place: it waits no more", c.gate(0, 4), RollingCodes.NONE);
    }

    private static void waitedForAheadOfAll() {
        RollingCodes c = Check.on("e0 0;g3 5 20;f0 0 0 0 15;f0 5 0 0 10;");
        pressInNoise(c, 1, 4);
        due("ahead of all: 5 ahead", c.press(1), 0);
        due("ahead of all: waits for fob", c.gate(0, 4), 1);
        due("ahead of all: the next", c.press(1), 1);
        due("ahead of all: last of 1", c.last(0, 1), 16);
        due("ahead of all: last of 0", c.last(0, 0), 15);
    }

    private static void fobsRising() {
        RollingCodes c = Check.on("e0 0;g0 5 4;f0 5 0 17 100;f0 5 0 17 100;");
        due("rising: press(1)", c.press(1), 1);
        due("rising: last of 0", c.last(0, 0), 101);
        due("rising: last of 1", c.last(0, 1), 100);
        due("rising: 0 is behind", c.ahead(0, 0), 9999);
        due("rising: press(0)", c.press(0), 1);
        due("rising: last of 1 then", c.last(0, 1), 101);
    }

    private static void stepsAndNoise() {
        RollingCodes c = Check.on("e5 0;g0 5 3;g0 6 3;f0 5 0 0 10;");
        due("step(0, 9)", c.step(0, 9), 5);
        due("step(0, 9) again", c.step(0, 9), RollingCodes.NOT);
        due("step(0, 10)", c.step(0, 10), RollingCodes.OUTSIDE);
        due("step(0, -1)", c.step(0, -1), RollingCodes.OUTSIDE);
        due("step(1, 10)", c.step(1, 10), RollingCodes.UNKNOWN);
        due("step: place", c.fob(0, 1), 9);
        due("step(0, 0)", c.step(0, 0), 9);
        due("earTo(9)", c.earTo(9), 5);
        due("earTo(9) again", c.earTo(9), RollingCodes.NOT);
        due("earTo(10)", c.earTo(10), RollingCodes.OUTSIDE);
        due("earTo(-1)", c.earTo(-1), RollingCodes.OUTSIDE);
        due("earTo: place", c.told(5), 9);
        due("noise(1, true)", c.noise(1, true), 2);
        due("noise(0, true)", c.noise(0, true), 3);
        due("noise(0, true) again", c.noise(0, true), RollingCodes.NOT);
        due("noise(1, false)", c.noise(1, false), 1);
        due("noise(1, false) again", c.noise(1, false), RollingCodes.NOT);
        due("noise(2, false)", c.noise(2, false), RollingCodes.UNKNOWN);
        due("told(8)", c.told(8), 1);
        due("told(12)", c.told(12), 6);
        c.step(0, 5);
        due("press in noise", c.press(0), 0);
    }

    private static void teaching() {
        RollingCodes c = Check.on("e0 0;g3 5 20;g1 5 3;f0 5 0 0 10;f0 5 0 1 20;");
        pressInNoise(c, 0, 4);
        c.press(0);
        due("teach: last", c.last(0, 0), 10);
        due("teach(0, 0)", c.teach(0, 0), 15);
        due("teach: last then", c.last(0, 0), 15);
        due("teach: the other fob's", c.last(0, 1), 20);
        due("teach: ahead", c.ahead(0, 0), 0);
        due("teach: what it waits for stays", c.gate(0, 5), 16);
        due("teach(2, 0)", c.teach(2, 0), RollingCodes.UNKNOWN);
        due("teach(0, 2)", c.teach(0, 2), RollingCodes.UNKNOWN);
        due("teach(0, -1)", c.teach(0, -1), RollingCodes.UNKNOWN);
    }

    private static void sentAgain() {
        RollingCodes c = Check.on("e5 2;g0 5 3;g2 7 3;g2 8 3;f0 5 9 0 10;");
        c.noise(0, true);
        c.press(0);
        c.noise(0, false);
        due("again(0)", c.again(0), 3);
        due("again(0) again", c.again(0), 2);
        due("again: it is not kept anew", c.told(7), 1);
        c.noise(1, true);
        due("again(0) in noise", c.again(0), 0);
        due("again(1)", c.again(1), RollingCodes.UNKNOWN);
        due("again(-1)", c.again(-1), RollingCodes.UNKNOWN);
        c.earTo(9);
        due("again(0) from 9", c.again(0), 4);
    }

    private static void filling() {
        RollingCodes c = Check.on("e5 2;f0 5 9 0 10;");
        due("fill(0) full", c.fill(0), 60);
        due("fill: it can be undone", c.told(12), 1);
        Check.pressTimes(c, 0, 3);
        due("fill(0)", c.fill(0), 57);
        due("fill: battery", c.fob(0, 5), 60);
        due("fill(1)", c.fill(1), RollingCodes.UNKNOWN);
    }

    private static RollingCodes drifted(int seed, String text, int n) {
        RollingCodes c = Check.on(text);
        c.seed(seed);
        c.drift(n);
        return c;
    }

    private static void hoursByDraws() {
        String one = "e5 0;g0 5 3;f0 5 0 0 10;";
        RollingCodes pressed = drifted(0, one, 1);
        due("draw 0: count", pressed.fob(0, 4), 11);
        due("draw 0: hours", pressed.told(4), 1);
        due("draw 0: openings", pressed.told(9), 1);
        due("draw 0: the seed", pressed.seed(0), 1406932606);
        due("draw 1: count", drifted(6, one, 1).fob(0, 4), 11);
        RollingCodes stepped = drifted(3, one, 1);
        due("draw 2: place", stepped.fob(0, 1), 5);
        due("draw 2: the seed", stepped.seed(0), 679304702);
        due("draw 2: place, two fobs", drifted(3, "e5 0;f0 5 0 0 10;f0 9 0 0 10;", 1).fob(1, 1), 5);
        RollingCodes noisy = drifted(1, "e5 0;g0 5 3;g0 5 3;g0 5 3;g0 5 3;f0 5 0 0 10;", 1);
        due("draw 3: noise", noisy.told(8), 2);
        due("draw 3: the seed", noisy.seed(1), 662824084);
        noisy.drift(1);
        due("draw 3: noise ends", noisy.told(8), 0);
        RollingCodes still = drifted(1, "e5 0;f0 5 0 0 10;", 1);
        due("draw 3: no gates, no third draw", still.seed(0), 377401575);
        RollingCodes nothing = drifted(7, one, 1);
        due("draw 4: nothing kept, no third draw", nothing.seed(0), 642666333);
        RollingCodes again = Check.on("e5 0;g2 5 3;f0 5 0 0 10;");
        again.press(0);
        again.seed(7);
        again.drift(1);
        due("draw 4: sent again", again.told(9), 2);
        due("draw 4: the seed", again.seed(0), 712265938);
        due("draw 4: not kept anew", again.told(7), 1);
    }

    private static void hoursWithoutFobs() {
        RollingCodes c = Check.on("e5 0;g0 5 3;");
        due("no fobs: drift(60)", c.drift(60), 60);
        due("no fobs: no draws", c.seed(0), 0);
        due("drift(0)", c.drift(0), RollingCodes.OUTSIDE);
        due("drift(61)", c.drift(61), RollingCodes.OUTSIDE);
        due("drift(-5)", c.drift(-5), RollingCodes.OUTSIDE);
        due("no street: drift(0)", new RollingCodes().drift(0), RollingCodes.OUTSIDE);
        due("no street: drift(1)", new RollingCodes().drift(1), RollingCodes.NOT);
    }

    private static void hoursAreFull() {
        RollingCodes c = Check.on("e5 0;");
        for (int i = 1; i <= 150; i++) {
            due("hours", c.drift(60), 60 * i);
        }
        due("9000 hours: drift(1)", c.drift(1), 9001);
        due("9001 hours: drift(1)", c.drift(1), RollingCodes.FULL);
        due("9001 hours: drift(61)", c.drift(61), RollingCodes.OUTSIDE);
        due("9001 hours: undo()", c.undo(), 15);
        due("9001 hours: told(4)", c.told(4), 9000);
    }

    static final String BUSY = "e5 4;g0 5 3;g2 6 3;g3 4 30;f0 5 9 0 10;f1 5 9 7 20;";

    /** One of the calls that can be undone; on the busy street, with something kept, none is refused. */
    static int act(RollingCodes c, int which) {
        switch (which) {
            case 0: return c.press(1);
            case 1: return c.step(0, 2);
            case 2: return c.earTo(3);
            case 3: return c.noise(2, true);
            case 4: return c.teach(0, 1);
            case 5: return c.again(0);
            case 6: return c.fill(0);
            default: return c.drift(20);
        }
    }

    private static void eachIsUndone() {
        for (int which = 0; which <= 7; which++) {
            RollingCodes c = Check.on(BUSY);
            c.noise(0, true);
            Check.pressTimes(c, 0, 2);
            c.press(1);
            c.seed(6);
            List<Integer> before = Check.scene(c);
            act(c, which);
            due("act " + which + ": told(12)", c.told(12), 5);
            CHECK.isSo("act " + which + " changes something", !before.equals(Check.scene(c)));
            c.see(1, 1);
            c.write(0, 0);
            int seed = c.seed(0);
            c.seed(seed);
            due("act " + which + ": undo()", c.undo(), 4);
            CHECK.isSo("act " + which + " is undone", before.equals(Check.scene(c)));
            due("act " + which + ": the seed stays", c.seed(0), seed);
            due("act " + which + ": what is seen stays", c.told(10), 1);
            due("act " + which + ": the book stays", c.told(11), 1);
        }
    }

    private static void sixteenAreKept() {
        RollingCodes c = Check.on("e5 0;g0 5 3;f0 5 0 0 10;");
        Check.pressTimes(c, 0, 18);
        due("sixteen: told(12)", c.told(12), 16);
        c.press(7);
        c.step(0, 5);
        c.noise(0, false);
        due("sixteen: what is refused does not count", c.told(12), 16);
        for (int left = 15; left >= 0; left--) {
            due("sixteen: undo()", c.undo(), left);
        }
        due("sixteen: undo() then", c.undo(), RollingCodes.NOT);
        due("sixteen: the oldest two stand", c.fob(0, 4), 12);
        due("sixteen: battery", c.fob(0, 5), 58);
        due("sixteen: openings", c.told(9), 2);
        c.press(0);
        due("sixteen: undo() of a new one", c.undo(), 0);
        due("sixteen: count", c.fob(0, 4), 12);
    }
}
