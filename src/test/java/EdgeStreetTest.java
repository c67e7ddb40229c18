import java.util.List;

/** The boundary cases of section 1 and of promises 1 to 5, sentence by sentence. */
public final class EdgeStreetTest {
    private static final Check CHECK = new Check("EdgeStreetTest");
    private static final int NONE = RollingCodes.NONE, OUTSIDE = RollingCodes.OUTSIDE, FULL = RollingCodes.FULL;
    private static final int[] FAR_OFF = {Integer.MIN_VALUE, -1000000001, 1000000000, Integer.MAX_VALUE};
    private static final String FOUR_GATES = "g0 0 1;g0 0 1;g0 0 1;g0 0 1;";
    private static final String FIVE_FOBS = "f0 0 0 0 0;f0 0 0 0 0;f0 0 0 0 0;f0 0 0 0 0;f0 0 0 0 0;";

    public static void main(String[] args) {
        constants();
        aNewObject();
        lettersOfTheText();
        theTextIsFull();
        theLongestStreet();
        theEar();
        theEarFirstAndOnce();
        gatesAtMost();
        boundsOfGates();
        fobsAtMost();
        boundsOfFobs();
        numberedAsTheyCome();
        eachIsTaughtEach();
        figures();
        words();
        blanks();
        blanksWithinNumbers();
        numbersSideBySide();
        theFirstFault();
        faultAtTheEnd();
        theLeastFault();
        everyLetterFirst();
        everyLetterForANumber();
        everyLetterForAnEnd();
        everyLetterForAWord();
        wrongNumbers();
        oneTooMany();
        emptyTexts();
        theTextIsEmptyThen();
        howManyFobs();
        aNewStreet();
        aFaultLeavesTheRest();
        theLatestFault();
        whatIsTold();
        CHECK.end();
    }

    private static void due(String call, int got, int want) {
        CHECK.due(call, got, want);
    }

    private static RollingCodes reads(String text, int answer, int fault) {
        RollingCodes c = new RollingCodes();
        Check.feed(c, text);
        due("street() of '" + text + "'", c.street(), answer);
        due("fault() of '" + text + "'", c.fault(), fault);
        return c;
    }

    private static RollingCodes stands(String text, int fobs) {
        return reads(text, fobs, NONE);
    }

    private static void constants() {
        CHECK.says("NONE is -1.");
        due("NONE", RollingCodes.NONE, -1);
        CHECK.says("They are far below all that is counted: -1000000001 and on.");
        due("UNKNOWN", RollingCodes.UNKNOWN, -1000000001);
        due("OUTSIDE", RollingCodes.OUTSIDE, -1000000002);
        due("NOT", RollingCodes.NOT, -1000000003);
        due("FULL", RollingCodes.FULL, -1000000004);
    }

    private static void aNewObject() {
        CHECK.says("`RollingCodes()`: No STREET.");
        RollingCodes c = new RollingCodes();
        due("told(0)", c.told(0), 0);
        CHECK.isSo("a new object is as one without a street",
                Probe.of(new RollingCodes()).equals(Probe.of(stands("", 0))));
    }

    private static void lettersOfTheText() {
        CHECK.says("One letter (a number 0 .. 255) comes behind THE TEXT: how many it has. OUTSIDE, FULL (240).");
        RollingCodes c = new RollingCodes();
        due("feed(-1)", c.feed(-1), OUTSIDE);
        due("told(3), nothing fed", c.told(3), 0);
        due("feed(0)", c.feed(0), 1);
        due("feed(255)", c.feed(255), 2);
        due("feed(256)", c.feed(256), OUTSIDE);
        for (int letter : FAR_OFF) {
            due("feed(" + letter + ")", c.feed(letter), OUTSIDE);
        }
        due("told(3), two fed", c.told(3), 2);
        RollingCodes every = new RollingCodes();
        for (int letter = 16; letter <= 255; letter++) {
            due("feed(" + letter + ")", every.feed(letter), letter - 15);
        }
    }

    private static void theTextIsFull() {
        CHECK.says("THE STREET is told in a text (240 letters at most)");
        RollingCodes c = new RollingCodes();
        Check.feed(c, "e5 2;" + " ".repeat(234));
        due("told(3), one less than full", c.told(3), 239);
        due("feed, the last", c.feed(' '), 240);
        due("feed, one more", c.feed('x'), FULL);
        due("feed, one more of 0", c.feed(0), FULL);
        due("feed, one more of 255", c.feed(255), FULL);
        due("feed, one more outside", c.feed(256), OUTSIDE);
        due("feed, one more outside below", c.feed(-1), OUTSIDE);
        due("told(3), full", c.told(3), 240);
        due("street(), what was refused is not read", c.street(), 0);
        due("told(0)", c.told(0), 1);
        due("told(3) then", c.told(3), 0);
        due("feed then", c.feed('e'), 1);
    }

    private static void theLongestStreet() {
        String text = "e9 9;" + "g3 9 32;".repeat(4) + "f3 9 9 255 999;".repeat(5);
        RollingCodes c = stands(" ".repeat(240 - text.length()) + text, 5);
        due("told(1)", c.told(1), 4);
        due("fob(4, 4)", c.fob(4, 4), 999);
        reads(" ".repeat(234) + "e0 0;x", -11, 239);
        reads(" ".repeat(239) + "e", -11, 240);
    }

    private static void theEar() {
        CHECK.says("'e' X R ';' (THE EAR at PLACE X, 0 .. 9; RANGE R, 0 .. 9; first, once)");
        RollingCodes least = stands("e0 9;", 0);
        due("told(5), least", least.told(5), 0);
        due("told(6), greatest", least.told(6), 9);
        RollingCodes most = stands("e9 0;", 0);
        due("told(5), greatest", most.told(5), 9);
        due("told(6), least", most.told(6), 0);
        reads("e10 0;", -12, 1);
        reads("e0 10;", -12, 3);
        reads("e-1 0;", -11, 1);
        reads("e0 -1;", -11, 3);
    }

    private static void theEarFirstAndOnce() {
        reads("g0 0 1;e0 0;", -11, 0);
        reads("f0 0 0 0 0;e0 0;", -11, 0);
        reads("e0 0;e0 0;", -13, 5);
        reads("e0 0;g0 0 1;e0 0;", -13, 12);
    }

    private static void gatesAtMost() {
        CHECK.says("'g' K X W ';' (4 GATES at most: KIND K, 0 .. 3; at PLACE X; WINDOW W, 1 .. 32)");
        due("told(1), none", stands("e0 0;", 0).told(1), 0);
        due("told(1), one", stands("e0 0;g0 0 1;", 0).told(1), 1);
        due("told(1), four", stands("e0 0;" + FOUR_GATES, 0).told(1), 4);
        reads("e0 0;" + FOUR_GATES + "g0 0 1;", -13, 33);
    }

    private static void boundsOfGates() {
        RollingCodes least = stands("e0 0;g0 0 1;", 0);
        RollingCodes most = stands("e0 0;g3 9 32;", 0);
        int[] leasts = {0, 0, 1};
        int[] mosts = {3, 9, 32};
        for (int what = 0; what <= 2; what++) {
            due("gate(0, " + what + "), least", least.gate(0, what), leasts[what]);
            due("gate(0, " + what + "), greatest", most.gate(0, what), mosts[what]);
        }
        reads("e0 0;g4 0 1;", -12, 6);
        reads("e0 0;g0 10 1;", -12, 8);
        reads("e0 0;g0 0 33;", -12, 10);
        reads("e0 0;g0 0 0;", -12, 10);
        reads("e0 0;g0 0 000;", -12, 10);
    }

    private static void fobsAtMost() {
        CHECK.says("'f' K X R S C ';' (5 FOBS at most: KIND K, 0 .. 3; at PLACE X; RANGE R; SECRET S, 0 .. 255; COUNT C, 0 .. 999)");
        due("told(2), none", stands("e0 0;", 0).told(2), 0);
        due("told(2), one", stands("e0 0;f0 0 0 0 0;", 1).told(2), 1);
        due("told(2), five", stands("e0 0;" + FIVE_FOBS, 5).told(2), 5);
        reads("e0 0;" + FIVE_FOBS + "f0 0 0 0 0;", -13, 60);
    }

    private static void boundsOfFobs() {
        RollingCodes least = stands("e0 0;f0 0 0 0 0;", 1);
        RollingCodes most = stands("e0 0;f3 9 9 255 999;", 1);
        int[] mosts = {3, 9, 9, 255, 999};
        for (int what = 0; what <= 4; what++) {
            due("fob(0, " + what + "), least", least.fob(0, what), 0);
            due("fob(0, " + what + "), greatest", most.fob(0, what), mosts[what]);
        }
        reads("e0 0;f4 0 0 0 0;", -12, 6);
        reads("e0 0;f0 10 0 0 0;", -12, 8);
        reads("e0 0;f0 0 10 0 0;", -12, 10);
        reads("e0 0;f0 0 0 256 0;", -12, 12);
        reads("e0 0;f0 0 0 0 1000;", -12, 14);
    }

    private static void numberedAsTheyCome() {
        CHECK.says("What has a number has it from 0 on, as it comes.");
        RollingCodes c = stands("e0 0;f3 0 0 0 0;g3 0 1;g2 0 1;f2 0 0 0 0;f1 0 0 0 0;g1 0 1;f0 0 0 0 0;g0 0 1;f1 0 0 0 0;", 5);
        int[] fobs = {3, 2, 1, 0, 1};
        int[] gates = {3, 2, 1, 0};
        for (int f = 0; f < 5; f++) {
            due("fob(" + f + ", 0)", c.fob(f, 0), fobs[f]);
        }
        for (int g = 0; g < 4; g++) {
            due("gate(" + g + ", 0)", c.gate(g, 0), gates[g]);
        }
    }

    private static void eachIsTaughtEach() {
        CHECK.says("Each GATE is TAUGHT each FOB as the text ends (as told below).");
        RollingCodes c = stands("e0 0;f0 0 0 0 7;g0 0 1;f1 0 0 0 0;g1 0 1;g2 0 1;f2 0 0 0 999;g3 0 1;f3 0 0 0 500;f0 0 0 0 1;", 5);
        int[] counts = {7, 0, 999, 500, 1};
        for (int g = 0; g < 4; g++) {
            for (int f = 0; f < 5; f++) {
                due("last(" + g + ", " + f + ")", c.last(g, f), counts[f]);
                due("ahead(" + g + ", " + f + ")", c.ahead(g, f), 0);
            }
        }
    }

    private static void figures() {
        CHECK.says("NUMBERS have one to three figures");
        reads("e;", -11, 1);
        due("one figure", stands("e5 2;", 0).told(5), 5);
        due("two figures", stands("e05 2;", 0).told(5), 5);
        due("three figures", stands("e005 2;", 0).told(5), 5);
        reads("e0005 2;", -12, 1);
        reads("e00005 2;", -12, 1);
        due("three figures of a count", stands("e0 0;f0 0 0 0 100;", 1).fob(0, 4), 100);
        due("three figures of a window", stands("e0 0;g0 0 032;", 0).gate(0, 2), 32);
        reads("e0 0;f0 0 0 0 0999;", -12, 14);
    }

    private static void words() {
        CHECK.says("a word is one letter");
        reads("ee0 0;", -11, 1);
        reads("ear0 0;", -11, 1);
        reads("e0 0;gg0 0 1;", -11, 6);
        reads("e0 0;gate0 0 1;", -11, 6);
        reads("e0 0;fob0 0 0 0 0;", -11, 6);
        reads("e0 0;;", -11, 5);
        reads("e0 0;g0 0 1;;", -11, 12);
    }

    private static void blanks() {
        CHECK.says("blanks (32) may stand anywhere but within NUMBERS");
        RollingCodes c = stands("  e  5  2  ;  g  0  2  8  ;  f  0  3  9  17  100  ;  ", 1);
        due("told(5)", c.told(5), 5);
        due("told(6)", c.told(6), 2);
        due("gate(0, 2)", c.gate(0, 2), 8);
        due("fob(0, 3)", c.fob(0, 3), 17);
        due("fob(0, 4)", c.fob(0, 4), 100);
        stands(" e5 2;", 0);
        stands("e 5 2;", 0);
        stands("e5 2 ;", 0);
        stands("e5 2; ", 0);
        for (char other : new char[] {0, 9, 10, 13, 31, 33, 160, 255}) {
            reads(other + "e5 2;", -11, 0);
            reads("e5 2;" + other, -11, 5);
            reads("e5" + other + "2;", -11, 2);
        }
    }

    private static void blanksWithinNumbers() {
        reads("e0 0;f0 3 9 1 7 100;", -11, 16);
        RollingCodes c = stands("e0 0;g0 1 3;", 0);
        due("gate(0, 1)", c.gate(0, 1), 1);
        due("gate(0, 2)", c.gate(0, 2), 3);
    }

    private static void numbersSideBySide() {
        CHECK.says("two NUMBERS side by side need one");
        reads("e52;", -12, 1);
        reads("e05;", -11, 3);
        stands("e5 2;", 0);
        stands("e5  2;", 0);
        stands("e5 2;g0 2 8;f0 3 9 17 100;", 1);
    }

    private static void theFirstFault() {
        CHECK.says("FAULTS, at the first letter that has one (the end at the text's length), of these the least");
        reads("e10 0;x", -12, 1);
        reads("e10 10;", -12, 1);
        reads("e0 10;e0 0;", -12, 3);
        reads("e10", -12, 1);
        reads("e10x", -12, 1);
        reads("ex10", -11, 1);
        reads("e0 0;e10 x", -13, 5);
        reads("e0 0;" + FOUR_GATES + "g4 10 33;", -13, 33);
        reads("xg", -11, 0);
        reads("e0 0;g0 0 33;e", -12, 10);
    }

    private static void faultAtTheEnd() {
        String text = "e1 2;g3 4 5;f1 2 3 4 5;";
        for (int length = 1; length < text.length(); length++) {
            if (text.charAt(length - 1) != ';') {
                reads(text.substring(0, length), -11, length);
                reads(text.substring(0, length) + "   ", -11, length + 3);
            }
        }
        reads(text.substring(0, 4) + " ".repeat(236), -11, 240);
    }

    private static void theLeastFault() {
        reads("ee", -11, 1);
        reads("e0e", -11, 2);
        reads("e0 0e", -11, 4);
        reads("e0 0;ge", -11, 6);
        reads("e0 0;" + FOUR_GATES + "f0 g", -11, 36);
        reads("e0 0;" + FIVE_FOBS + "g0 f", -11, 63);
        reads("1234", -11, 0);
        reads("e0 0;1234", -11, 5);
        reads("e0 0 1234;", -11, 5);
        reads("e0 0 10;", -11, 5);
    }

    private static boolean isFigure(int letter) {
        return letter >= '0' && letter <= '9';
    }

    private static void everyLetterFirst() {
        CHECK.says("1 it cannot stand there (a letter that is no word, another word first than 'e').");
        for (char letter = 0; letter <= 255; letter++) {
            if (letter == ' ') {
                stands("" + letter, 0);
            } else {
                reads("" + letter, -11, letter == 'e' ? 1 : 0);
            }
        }
    }

    private static void everyLetterForANumber() {
        for (char letter = 0; letter <= 255; letter++) {
            reads("e" + letter, -11, isFigure(letter) || letter == ' ' ? 2 : 1);
            reads("e0 " + letter, -11, isFigure(letter) || letter == ' ' ? 4 : 3);
        }
    }

    private static void everyLetterForAnEnd() {
        for (char letter = 0; letter <= 255; letter++) {
            if (letter == ';') {
                stands("e0 0" + letter, 0);
            } else {
                reads("e0 0" + letter, -11, isFigure(letter) || letter == ' ' ? 5 : 4);
            }
        }
    }

    private static void everyLetterForAWord() {
        for (char letter = 0; letter <= 255; letter++) {
            if (letter == ' ') {
                stands("e0 0;" + letter, 0);
            } else if (letter == 'e') {
                reads("e0 0;" + letter, -13, 5);
            } else {
                reads("e0 0;" + letter, -11, letter == 'g' || letter == 'f' ? 6 : 5);
            }
        }
    }

    private static void wrongNumbers() {
        CHECK.says("2 a NUMBER of four figures or more, or out of its bounds (at its first).");
        reads("e0000 0;", -12, 1);
        reads("e 0000 0;", -12, 2);
        reads("e0 1234;", -12, 3);
        reads("e0 " + "0".repeat(230) + ";", -12, 3);
        reads("e0 4294967296;", -12, 3);
        reads("e0 18446744073709551616;", -12, 3);
        reads("e0 " + "9".repeat(237), -12, 3);
        reads("e999 0;", -12, 1);
        reads("e  10 0;", -12, 3);
    }

    private static void oneTooMany() {
        CHECK.says("3 'e' again, a fifth 'g', a sixth 'f' (at it).");
        reads("e0 0;  e", -13, 7);
        reads("e0 0;" + FOUR_GATES + FIVE_FOBS + "e", -13, 88);
        reads("e0 0;" + FOUR_GATES + " g", -13, 34);
        reads("e0 0;" + FOUR_GATES + FIVE_FOBS + "g", -13, 88);
        reads("e0 0;" + FIVE_FOBS + " f", -13, 61);
        reads("e0 0;" + FIVE_FOBS + FOUR_GATES + "f", -13, 88);
        stands("e0 0;" + FIVE_FOBS + FOUR_GATES, 5);
    }

    private static void emptyTexts() {
        CHECK.says("An empty text (or one of blanks alone): no STREET.");
        for (int blanks : new int[] {0, 1, 2, 239, 240}) {
            RollingCodes fresh = stands(" ".repeat(blanks), 0);
            due("told(0), " + blanks + " blanks", fresh.told(0), 0);
            RollingCodes again = Check.on("e3 4;g0 5 3;f0 5 9 0 10;");
            again.press(0);
            Check.feed(again, " ".repeat(blanks));
            due("street(), " + blanks + " blanks", again.street(), 0);
            for (int what = 0; what <= 12; what++) {
                due("told(" + what + "), " + blanks + " blanks", again.told(what), 0);
            }
            due("fob(0, 0)", again.fob(0, 0), RollingCodes.UNKNOWN);
            due("gate(0, 0)", again.gate(0, 0), RollingCodes.UNKNOWN);
            due("kept(0)", again.kept(0), NONE);
            due("earTo(1)", again.earTo(1), RollingCodes.NOT);
        }
    }

    private static void theTextIsEmptyThen() {
        CHECK.says("THE TEXT (it is empty then, with a FAULT, too) becomes THE STREET");
        RollingCodes c = stands("e5 2;", 0);
        due("told(3)", c.told(3), 0);
        due("street() of nothing more", c.street(), 0);
        due("told(0), the text was empty", c.told(0), 0);
        RollingCodes faulty = reads("x", -11, 0);
        due("told(3), with a fault", faulty.told(3), 0);
        due("feed, with a fault", faulty.feed('e'), 1);
        Check.feed(faulty, "7 8;");
        due("street(), the faulty letter is gone", faulty.street(), 0);
        due("told(5)", faulty.told(5), 7);
    }

    private static void howManyFobs() {
        CHECK.says("what could be undone are gone; THE SEED stays): how many FOBS; -10 less the number of its FAULT (all else is as it was).");
        for (int fobs = 0; fobs <= 5; fobs++) {
            stands("e0 0;g0 0 1;" + "f0 0 0 0 0;".repeat(fobs), fobs);
        }
    }

    private static final String STREET = "e5 4;g0 5 3;g2 4 30;g3 5 30;f0 5 9 0 10;f1 5 9 7 20;f2 1 5 30 21;f3 2 2 60 14;";

    /** Presses, noise, a gate that waits, openings, images, what is seen and written. */
    private static RollingCodes used() {
        RollingCodes c = Check.on(STREET);
        Check.feed(c, "e0 0;x");
        c.street();
        c.press(0);
        c.keep(0);
        c.drift(13);
        c.noise(2, c.told(8) >> 2 == 0);
        c.keep(1);
        c.noise(2, c.told(8) >> 2 == 0);
        for (int i = 0; i < 6; i++) {
            c.press(1);
        }
        c.fill(0);
        c.teach(0, 3);
        c.see(0, 0);
        c.write(0, c.gate(0, 3));
        c.write(1, 0);
        return c;
    }

    private static void aNewStreet() {
        CHECK.says("(HOUR 0, all as told, BATTERIES 60, no NOISE, nothing kept by THE EAR, no openings; nothing SEEN, no BOOK; IMAGES, what could be undone are gone; THE SEED stays)");
        RollingCodes c = used();
        int seed = c.seed(0);
        c.seed(seed);
        Check.feed(c, STREET);
        due("street()", c.street(), 4);
        RollingCodes fresh = Check.on(STREET);
        fresh.seed(seed);
        CHECK.isSo("the seed is another than at first", seed != 0);
        CHECK.isSo("all is as in a new object", Probe.of(fresh).equals(Probe.of(c)));
        RollingCodes smaller = used();
        Check.feed(smaller, "e5 4;g0 5 3;f0 5 9 0 10;");
        smaller.street();
        due("fob(1, 0), it had more", smaller.fob(1, 0), RollingCodes.UNKNOWN);
        due("gate(1, 0), it had more", smaller.gate(1, 0), RollingCodes.UNKNOWN);
    }

    private static void aFaultLeavesTheRest() {
        CHECK.says("-10 less the number of its FAULT (all else is as it was)");
        List<Integer> before = Probe.of(used());
        for (String text : new String[] {"e0 0;x", "e1 1;g1 1 1;f2 2 2 2 2;f9"}) {
            RollingCodes c = used();
            Check.feed(c, text);
            CHECK.isSo("street() of '" + text + "' has a fault", c.street() < -10);
            Check.feed(c, "e0 0;x");
            due("street()", c.street(), -11);
            CHECK.isSo("all else is as it was behind '" + text + "'", before.equals(Probe.of(c)));
        }
        reads("x", -10 - 1, 0);
        reads("e10", -10 - 2, 1);
        reads("e0 0;e", -10 - 3, 5);
    }

    private static void theLatestFault() {
        CHECK.says("The letter of the FAULT of the latest street(); NONE.");
        RollingCodes c = new RollingCodes();
        due("fault(), no street() yet", c.fault(), NONE);
        Check.feed(c, "e0 0;e");
        due("fault(), not read yet", c.fault(), NONE);
        c.street();
        due("fault()", c.fault(), 5);
        Check.feed(c, "e0 0;");
        due("fault(), the next is not read yet", c.fault(), 5);
        c.street();
        due("fault(), none", c.fault(), NONE);
        Check.feed(c, "x");
        c.street();
        due("fault() at 0", c.fault(), 0);
        c.street();
        due("fault() of an empty text", c.fault(), NONE);
    }

    private static void whatIsTold() {
        CHECK.says("0 1 there is a STREET, 0 not, 1 GATES, 2 FOBS, 3 letters of THE TEXT, 4 HOURS, 5 THE EAR's PLACE, 6 its RANGE, 7 how many CODES it keeps, "
                + "8 GATES in NOISE (a SET), 9 openings of all, 10 what is SEEN, 11 entries of THE BOOK, 12 how many can be undone. OUTSIDE.");
        RollingCodes c = Check.on("e9 8;g2 5 3;g2 5 3;g2 5 3;f3 5 9 0 10;f0 5 9 1 10;");
        c.feed('e');
        c.press(0);
        c.press(1);
        c.noise(0, true);
        c.noise(2, true);
        c.drift(3);
        c.undo();
        c.see(0, 0);
        c.see(0, 0);
        c.see(0, 0);
        c.write(0, 0);
        int[] want = {1, 3, 2, 1, 0, 9, 8, 2, 5, 6, 3, 1, 4};
        for (int what = 0; what <= 12; what++) {
            due("told(" + what + ")", c.told(what), want[what]);
        }
        due("told(-1)", c.told(-1), OUTSIDE);
        due("told(13)", c.told(13), OUTSIDE);
        for (int what : FAR_OFF) {
            due("told(" + what + ")", c.told(what), OUTSIDE);
        }
        RollingCodes none = new RollingCodes();
        for (int what = 0; what <= 12; what++) {
            due("told(" + what + "), no street", none.told(what), 0);
        }
    }
}
