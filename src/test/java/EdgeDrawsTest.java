import java.util.ArrayList;
import java.util.List;

/** The boundary cases of hours by draws, of what is undone, of images: promises 18, 19, 34 to 36, sentence by sentence. */
public final class EdgeDrawsTest {
    private static final Check CHECK = new Check("EdgeDrawsTest");
    private static final int UNKNOWN = RollingCodes.UNKNOWN, OUTSIDE = RollingCodes.OUTSIDE;
    private static final int NOT = RollingCodes.NOT, FULL = RollingCodes.FULL;
    private static final int GREATEST = 2147483647;
    private static final String BUSY = DoneTest.BUSY;

    public static void main(String[] args) {
        calls512();
        theSeed();
        theSeedGoesOn();
        drawsOfFive();
        pressedIfItCanBe();
        stepsByDraws();
        noiseByDraws();
        againByDraws();
        drawsOfFobs();
        noFobsNoDraws();
        hoursAtOnce();
        hoursAreFull();
        eachIsUndone();
        refusedIsNotUndone();
        sixteenAreKept();
        theOldestAreLost();
        theSeedStays();
        twoImages();
        imagesKeepAll();
        imagesAndWhatIsUndone();
        notKept();
        CHECK.end();
    }

    private static void due(String call, int got, int want) {
        CHECK.due(call, got, want);
    }

    private static int next(long seed, int draws) {
        for (int i = 0; i < draws; i++) {
            seed = (seed * 1103515245L + 12345L) % 2147483648L;
        }
        return (int) seed;
    }

    private static int seedOf(RollingCodes c) {
        int seed = c.seed(0);
        c.seed(seed);
        return seed;
    }

    private static RollingCodes hourOf(int seed, String street) {
        RollingCodes c = Check.on(street);
        c.seed(seed);
        due("drift(1) by seed " + seed, c.drift(1), 1);
        return c;
    }

    private static void calls512() {
        CHECK.says("An object is used for at most 512 calls after it has been made");
        String street = "e5 0;g0 5 3;f0 5 0 0 10;";
        RollingCodes c = Check.on(street);
        int calls = street.length() + 1;
        for (; calls + 2 < 512; calls += 2) {
            c.press(0);
            c.fill(0);
        }
        for (; calls < 511; calls++) {
            c.press(0);
        }
        due("the 512th call", c.fob(0, 4), 10 + c.gate(0, 3));
        CHECK.isSo("it was pressed often", c.gate(0, 3) > 240);
    }

    private static void theSeed() {
        CHECK.says("THE SEED becomes v (0 .. 2147483647): what it was. OUTSIDE.");
        RollingCodes c = new RollingCodes();
        due("seed(-1)", c.seed(-1), OUTSIDE);
        due("seed(MIN)", c.seed(Integer.MIN_VALUE), OUTSIDE);
        due("seed(greatest), 0 at first", c.seed(GREATEST), 0);
        due("seed(-1) then", c.seed(-1), OUTSIDE);
        due("seed(0)", c.seed(0), GREATEST);
        due("seed(1)", c.seed(1), 0);
        due("seed(1) again", c.seed(1), 1);
    }

    private static void theSeedGoesOn() {
        CHECK.says("THE SEED (0 at first: each DRAW it becomes it times 1103515245 and 12345, left over by 2 to the 31; the DRAW of n is it / 65536, left over by n)");
        String street = "e0 0;g0 0 1;f0 0 0 0 0;";
        int[][] draws = {{0, 2}, {GREATEST, 2}, {GREATEST - 1, 2}, {1, 3}, {3, 3}, {1 << 30, 2}};
        for (int[] d : draws) {
            due("seed " + d[0] + ", " + d[1] + " draws", seedOf(hourOf(d[0], street)), next(d[0], d[1]));
        }
    }

    private static void drawsOfFive() {
        CHECK.says("for each, if there are FOBS, a DRAW of 5, of FOBS: on 0, 1 it is PRESSED (if it can be)");
        String street = "e5 0;g0 5 3;f0 5 0 0 10;";
        due("a draw of 0: count", hourOf(0, street).fob(0, 4), 11);
        due("a draw of 1: count", hourOf(6, street).fob(0, 4), 11);
        due("a draw of 2: count", hourOf(3, street).fob(0, 4), 10);
        due("a draw of 3: count", hourOf(1, street).fob(0, 4), 10);
        due("a draw of 4: count", hourOf(7, street).fob(0, 4), 10);
        RollingCodes pressed = hourOf(0, street);
        due("a draw of 0: battery", pressed.fob(0, 5), 59);
        due("a draw of 0: openings", pressed.told(9), 1);
        due("a draw of 0: kept", pressed.told(7), 1);
        due("a draw of 0: two draws", seedOf(pressed), next(0, 2));
    }

    private static void pressedIfItCanBe() {
        RollingCodes c = Check.on("e5 0;g0 5 3;f0 5 0 0 10;");
        for (int i = 0; i < 60; i++) {
            c.press(0);
        }
        c.seed(0);
        List<Integer> before = Check.scene(c);
        due("drift(1) with a battery of 0", c.drift(1), 1);
        due("count", c.fob(0, 4), 70);
        due("battery", c.fob(0, 5), 0);
        due("openings", c.told(9), 60);
        due("two draws", seedOf(c), next(0, 2));
        due("it can be undone", c.undo(), 15);
        CHECK.isSo("undone", before.equals(Check.scene(c)));
    }

    private static void stepsByDraws() {
        CHECK.says("on 2 it STEPS to a DRAW of 10 PLACES");
        due("to 5", hourOf(3, "e5 0;f0 0 0 0 10;").fob(0, 1), 5);
        RollingCodes stays = hourOf(3, "e5 0;f0 5 0 0 10;");
        due("to 5, where it is", stays.fob(0, 1), 5);
        due("to 5, where it is: three draws", seedOf(stays), next(3, 3));
        boolean[] places = new boolean[10];
        for (int seed = 0; seed < 2000; seed++) {
            if (next(seed, 1) / 65536 % 5 == 2) {
                int place = next(seed, 3) / 65536 % 10;
                due("seed " + seed, hourOf(seed, "e5 0;f0 0 0 0 10;").fob(0, 1), place);
                places[place] = true;
            }
        }
        for (int x = 0; x < 10; x++) {
            CHECK.isSo("place " + x + " came", places[x]);
        }
    }

    private static void noiseByDraws() {
        CHECK.says("on 3, if there are GATES, NOISE at a DRAW of these begins, or ends, if there is");
        RollingCodes none = hourOf(1, "e5 0;f0 5 0 0 10;");
        due("no gates", none.told(8), 0);
        due("no gates: two draws", seedOf(none), next(1, 2));
        RollingCodes keeps = Check.on("e5 0;f0 5 0 0 10;");
        keeps.press(0);
        keeps.seed(1);
        keeps.drift(1);
        due("no gates, one kept: two draws", seedOf(keeps), next(1, 2));
        for (int gates = 1; gates <= 4; gates++) {
            String street = "e5 0;" + "g0 5 3;".repeat(gates) + "f0 5 0 0 10;";
            int drawn = next(1, 3) / 65536 % gates;
            RollingCodes c = hourOf(1, street);
            due("of " + gates + " gates", c.told(8), 1 << drawn);
            due("of " + gates + " gates: three draws", seedOf(c), next(1, 3));
            c.seed(1);
            c.drift(1);
            due("of " + gates + " gates: it ends", c.told(8), 0);
        }
    }

    private static void againByDraws() {
        CHECK.says("on 4, if THE EAR keeps some, a DRAW of these entries is SENT AGAIN");
        RollingCodes none = hourOf(7, "e5 0;g2 5 3;f0 5 0 0 10;");
        due("nothing kept", none.told(9), 0);
        due("nothing kept: two draws", seedOf(none), next(7, 2));
        due("nothing kept, the gate would open to 0", hourOf(7, "e5 0;g2 5 3;f0 5 0 0 0;").told(9), 0);
        for (int kept = 1; kept <= 8; kept++) {
            RollingCodes c = Check.on("e5 0;g0 5 32;f0 5 0 0 10;");
            c.noise(0, true);
            for (int i = 0; i < kept; i++) {
                c.press(0);
            }
            c.noise(0, false);
            c.seed(7);
            c.drift(1);
            int drawn = next(7, 3) / 65536 % kept;
            due("of " + kept + " kept: openings", c.told(9), 1);
            due("of " + kept + " kept: last", c.last(0, 0), 10 + kept - drawn);
            due("of " + kept + " kept: three draws", seedOf(c), next(7, 3));
            due("of " + kept + " kept: not kept anew", c.told(7), kept);
        }
    }

    private static void drawsOfFobs() {
        for (int fobs = 1; fobs <= 5; fobs++) {
            for (int seed : new int[] {0, 6, 12, 13, 20, 21}) {
                int what = next(seed, 1) / 65536 % 5;
                int drawn = next(seed, 2) / 65536 % fobs;
                RollingCodes c = hourOf(seed, "e5 0;" + "f0 5 0 0 10;".repeat(fobs));
                for (int f = 0; f < fobs; f++) {
                    due("seed " + seed + ", " + fobs + " fobs: count of " + f, c.fob(f, 4), what <= 1 && f == drawn ? 11 : 10);
                }
            }
        }
    }

    private static void noFobsNoDraws() {
        CHECK.says("n HOURS (counted, 0 at first)");
        RollingCodes c = Check.on("e5 0;g0 5 3;");
        due("told(4)", c.told(4), 0);
        c.seed(1);
        due("drift(1)", c.drift(1), 1);
        due("drift(60)", c.drift(60), 61);
        due("told(4) then", c.told(4), 61);
        due("the seed", seedOf(c), 1);
        due("noise", c.told(8), 0);
    }

    private static void hoursAtOnce() {
        CHECK.says("n HOURS (1 .. 60) BY DRAWS: HOURS. OUTSIDE, NOT: no STREET; FULL: HOURS are above 9000.");
        RollingCodes c = Check.on("e5 0;");
        due("drift(0)", c.drift(0), OUTSIDE);
        due("drift(-1)", c.drift(-1), OUTSIDE);
        due("drift(61)", c.drift(61), OUTSIDE);
        due("drift(MIN)", c.drift(Integer.MIN_VALUE), OUTSIDE);
        due("drift(MAX)", c.drift(Integer.MAX_VALUE), OUTSIDE);
        due("told(4)", c.told(4), 0);
        due("drift(1)", c.drift(1), 1);
        due("drift(60)", c.drift(60), 61);
        RollingCodes none = new RollingCodes();
        due("drift(1), no street", none.drift(1), NOT);
        due("drift(60), no street", none.drift(60), NOT);
        due("drift(0), no street", none.drift(0), OUTSIDE);
        due("drift(61), no street", none.drift(61), OUTSIDE);
    }

    private static RollingCodes atHour(int hour) {
        RollingCodes c = Check.on("e5 0;");
        for (int at = 0; at < hour; at += Math.min(60, hour - at)) {
            c.drift(Math.min(60, hour - at));
        }
        return c;
    }

    private static void hoursAreFull() {
        due("8999: drift(60)", atHour(8999).drift(60), 9059);
        due("9000: drift(1)", atHour(9000).drift(1), 9001);
        due("9000: drift(60)", atHour(9000).drift(60), 9060);
        RollingCodes full = atHour(9001);
        due("9001: drift(1)", full.drift(1), FULL);
        due("9001: drift(60)", full.drift(60), FULL);
        due("9001: drift(0)", full.drift(0), OUTSIDE);
        due("9001: drift(61)", full.drift(61), OUTSIDE);
        due("9001: told(4)", full.told(4), 9001);
        due("9001: told(12)", full.told(12), 16);
        full.undo();
        due("9001, undone: drift(1)", full.drift(1), 9001);
        RollingCodes most = atHour(9000);
        most.drift(60);
        due("9060: told(4)", most.told(4), 9060);
        due("9060: drift(1)", most.drift(1), FULL);
    }

    private static RollingCodes busy() {
        RollingCodes c = Check.on(BUSY);
        c.noise(0, true);
        c.press(0);
        c.press(0);
        c.press(1);
        c.keep(1);
        c.seed(6);
        return c;
    }

    private static void eachIsUndone() {
        CHECK.says("UNDONE: the latest of press(), step(), earTo(), noise(), teach(), again(), fill(), drift() that was not refused");
        for (int which = 0; which <= 7; which++) {
            RollingCodes c = busy();
            List<Integer> before = Check.scene(c);
            due("act " + which + ": nothing to undo", c.undo(), NOT);
            CHECK.isSo("act " + which + " is not refused", DoneTest.act(c, which) >= 0);
            due("act " + which + ": told(12)", c.told(12), 1);
            CHECK.isSo("act " + which + " changes something", !before.equals(Check.scene(c)));
            due("act " + which + ": undo()", c.undo(), 0);
            CHECK.isSo("act " + which + " is undone", before.equals(Check.scene(c)));
            due("act " + which + ": undo() then", c.undo(), NOT);
            CHECK.isSo("act " + which + ": a refused undo changes nothing", before.equals(Check.scene(c)));
        }
    }

    private static void refusedIsNotUndone() {
        RollingCodes c = busy();
        c.press(0);
        c.press(2);
        c.step(0, 5);
        c.step(0, 10);
        c.earTo(5);
        c.earTo(10);
        c.noise(0, true);
        c.noise(3, true);
        c.teach(3, 0);
        c.again(7);
        c.fill(2);
        c.drift(0);
        due("told(12), all but one refused", c.told(12), 1);
        c.see(0, 0);
        c.write(0, 0);
        c.tear();
        c.seed(9);
        c.feed('e');
        due("told(12), others are not undone", c.told(12), 1);
        due("undo()", c.undo(), 0);
        due("count", c.fob(0, 4), 12);
        due("the text stays", c.told(3), 1);
    }

    private static void sixteenAreKept() {
        CHECK.says("(16 at most are kept, the oldest are lost): all of section 2 is as ahead of it");
        RollingCodes c = Check.on(BUSY);
        List<List<Integer>> scenes = new ArrayList<>();
        for (int i = 0; i < 16; i++) {
            scenes.add(Check.scene(c));
            DoneTest.act(c, i % 2 == 0 ? 0 : i % 4 == 1 ? 5 : 6);
            due("told(12)", c.told(12), i + 1);
        }
        for (int i = 15; i >= 0; i--) {
            due("undo()", c.undo(), i);
            CHECK.isSo("as ahead of act " + i, scenes.get(i).equals(Check.scene(c)));
        }
        due("undo() then", c.undo(), NOT);
    }

    private static void theOldestAreLost() {
        for (int acts : new int[] {17, 18, 31, 32, 33, 50}) {
            RollingCodes c = Check.on("e5 0;g2 5 3;f0 5 0 0 10;");
            for (int i = 0; i < acts; i++) {
                c.press(0);
            }
            due(acts + " acts: told(12)", c.told(12), 16);
            for (int left = 15; left >= 0; left--) {
                due(acts + " acts: undo()", c.undo(), left);
                due(acts + " acts: count", c.fob(0, 4), 10 + acts - 16 + left);
            }
            due(acts + " acts: undo() then", c.undo(), NOT);
            due(acts + " acts: the oldest stand", c.gate(0, 3), acts - 16);
            c.press(0);
            due(acts + " acts: one anew", c.undo(), 0);
            due(acts + " acts: count then", c.fob(0, 4), 10 + acts - 16);
        }
    }

    private static void theSeedStays() {
        CHECK.says("all of section 2 is as ahead of it; THE SEED stays.");
        RollingCodes c = Check.on(BUSY);
        c.seed(5);
        c.drift(9);
        int seed = seedOf(c);
        CHECK.isSo("the seed has gone on", seed != 5);
        c.undo();
        due("the seed", seedOf(c), seed);
        due("the hours", c.told(4), 0);
        CHECK.says("The latest is undone: how many more can be. NOT: none.");
        due("undo()", c.undo(), NOT);
        due("undo(), no street", new RollingCodes().undo(), NOT);
    }

    private static void twoImages() {
        CHECK.says("IMAGE i becomes what is so (nothing can be undone then): 1. UNKNOWN.");
        RollingCodes c = Check.on(BUSY);
        due("keep(-1)", c.keep(-1), UNKNOWN);
        due("keep(2)", c.keep(2), UNKNOWN);
        due("keep(0)", c.keep(0), 1);
        c.press(0);
        due("keep(1)", c.keep(1), 1);
        c.press(0);
        due("goBack(0)", c.goBack(0), 1);
        due("count of image 0", c.fob(0, 4), 10);
        due("goBack(1)", c.goBack(1), 1);
        due("count of image 1", c.fob(0, 4), 11);
        c.press(0);
        due("keep(0) anew", c.keep(0), 1);
        c.press(0);
        c.goBack(0);
        due("count of image 0 anew", c.fob(0, 4), 12);
        c.goBack(1);
        due("count of image 1 still", c.fob(0, 4), 11);
        c.goBack(1);
        due("count of image 1 twice", c.fob(0, 4), 11);
    }

    private static void imagesKeepAll() {
        CHECK.says("IMAGES 0, 1 keep all of section 2, THE SEED.");
        for (int image = 0; image <= 1; image++) {
            for (int which = 0; which <= 7; which++) {
                RollingCodes c = busy();
                c.keep(image);
                List<Integer> before = Check.scene(c);
                DoneTest.act(c, which);
                c.see(0, 0);
                c.write(0, 0);
                c.feed('e');
                c.seed(4);
                due("act " + which + ": goBack(" + image + ")", c.goBack(image), 1);
                CHECK.isSo("act " + which + ": all of section 2", before.equals(Check.scene(c)));
                due("act " + which + ": the seed", seedOf(c), 6);
                due("act " + which + ": what is seen stays", c.told(10), 1);
                due("act " + which + ": the book stays", c.told(11), 1);
                due("act " + which + ": the text stays", c.told(3), 1);
            }
        }
    }

    private static void imagesAndWhatIsUndone() {
        CHECK.says("What is so becomes IMAGE i (nothing can be undone then): 1. UNKNOWN, NOT: it was not kept.");
        RollingCodes c = Check.on(BUSY);
        c.press(0);
        c.press(0);
        c.keep(2);
        c.goBack(0);
        c.goBack(2);
        due("refused: told(12)", c.told(12), 2);
        c.keep(0);
        due("keep: told(12)", c.told(12), 0);
        due("keep: undo()", c.undo(), NOT);
        due("keep: count", c.fob(0, 4), 12);
        c.press(0);
        c.press(0);
        c.goBack(0);
        due("goBack: told(12)", c.told(12), 0);
        due("goBack: undo()", c.undo(), NOT);
        due("goBack: count", c.fob(0, 4), 12);
        c.press(0);
        due("one anew: undo()", c.undo(), 0);
        due("one anew: count", c.fob(0, 4), 12);
    }

    private static void notKept() {
        RollingCodes c = Check.on(BUSY);
        due("goBack(0), none kept", c.goBack(0), NOT);
        due("goBack(1), none kept", c.goBack(1), NOT);
        due("goBack(-1)", c.goBack(-1), UNKNOWN);
        due("goBack(2)", c.goBack(2), UNKNOWN);
        due("goBack(MIN)", c.goBack(Integer.MIN_VALUE), UNKNOWN);
        due("keep(MAX)", c.keep(Integer.MAX_VALUE), UNKNOWN);
        c.keep(1);
        due("goBack(0), 1 kept", c.goBack(0), NOT);
        due("goBack(1), 1 kept", c.goBack(1), 1);
        c.keep(0);
        Check.feed(c, "x");
        c.street();
        due("goBack(0), a faulty text", c.goBack(0), 1);
        Check.feed(c, BUSY);
        c.street();
        due("goBack(0), a new street", c.goBack(0), NOT);
        due("goBack(1), a new street", c.goBack(1), NOT);
        RollingCodes none = new RollingCodes();
        due("goBack(0), no street", none.goBack(0), NOT);
    }
}
