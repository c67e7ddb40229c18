/** The boundary cases of what is seen and written (section 3) and of promises 28 to 33, sentence by sentence. */
public final class EdgeSeenTest {
    private static final Check CHECK = new Check("EdgeSeenTest");
    private static final int NONE = RollingCodes.NONE, UNKNOWN = RollingCodes.UNKNOWN, OUTSIDE = RollingCodes.OUTSIDE;
    private static final int FULL = RollingCodes.FULL;

    public static void main(String[] args) {
        seenSixAtMost();
        seenBounds();
        seenOutside();
        secretsOfNothing();
        theLeastAndTheGreatestSecret();
        allThatIsSeen();
        secretsOutside();
        asked();
        theBookFifteenAtMost();
        writtenBounds();
        falseEntries();
        torn();
        CHECK.end();
    }

    private static void due(String call, int got, int want) {
        CHECK.due(call, got, want);
    }

    private static void seenSixAtMost() {
        CHECK.says("SEEN (6 at most): by an unknown SECRET and a count (0 .. 999) the CODE was so (0 .. 508).");
        RollingCodes c = new RollingCodes();
        due("told(10), nothing", c.told(10), 0);
        for (int i = 1; i <= 6; i++) {
            due("see, number " + i, c.see(i, c.code(77, i)), i);
            due("told(10)", c.told(10), i);
        }
        due("see, one more", c.see(7, c.code(78, 7)), FULL);
        due("told(10), one more", c.told(10), 6);
        due("secrets(0), one more is not seen", c.secrets(0), 1);
        due("secrets(1)", c.secrets(1), 77);
    }

    private static void seenBounds() {
        RollingCodes c = new RollingCodes();
        due("see(0, 0)", c.see(0, 0), 1);
        due("secrets(1), secret 0", c.secrets(1), 0);
        c.tear();
        due("see(999, code)", c.see(999, c.code(200, 999)), 1);
        due("secrets(0)", c.secrets(0), 1);
        due("secrets(1), secret 200", c.secrets(1), 200);
        c.tear();
        due("see(274, 508)", c.see(274, 508), 1);
        due("secrets(0), secret 0", c.secrets(0), 1);
        due("secrets(2), secret 0", c.secrets(2), 0);
    }

    private static void seenOutside() {
        CHECK.says("SEEN: how much. OUTSIDE, FULL (6).");
        RollingCodes c = new RollingCodes();
        for (int full = 0; full <= 1; full++) {
            due("see(-1, 0)", c.see(-1, 0), OUTSIDE);
            due("see(1000, 0)", c.see(1000, 0), OUTSIDE);
            due("see(0, -1)", c.see(0, -1), OUTSIDE);
            due("see(0, 509)", c.see(0, 509), OUTSIDE);
            due("see(MIN, MAX)", c.see(Integer.MIN_VALUE, Integer.MAX_VALUE), OUTSIDE);
            due("secrets(0)", c.secrets(0), full == 0 ? 256 : 1);
            due("told(10)", c.told(10), full * 6);
            for (int i = 0; full == 0 && i < 6; i++) {
                c.see(0, 0);
            }
        }
        due("see(0, 0), full", c.see(0, 0), FULL);
    }

    private static void secretsOfNothing() {
        CHECK.says("SECRETS (0 .. 255) by which all that is SEEN is so: how many; the least; the greatest; NONE.");
        RollingCodes c = new RollingCodes();
        due("nothing seen: how many", c.secrets(0), 256);
        due("nothing seen: the least", c.secrets(1), 0);
        due("nothing seen: the greatest", c.secrets(2), 255);
        c.see(0, 346);
        due("256 is none: how many", c.secrets(0), 0);
        due("256 is none: the least", c.secrets(1), NONE);
        due("256 is none: the greatest", c.secrets(2), NONE);
        c.tear();
        c.see(0, 448);
        due("-1 is none: how many", c.secrets(0), 0);
    }

    private static void theLeastAndTheGreatestSecret() {
        for (int secret : new int[] {0, 1, 254, 255}) {
            RollingCodes c = new RollingCodes();
            c.see(5, c.code(secret, 5));
            due("secret " + secret + ": how many", c.secrets(0), 1);
            due("secret " + secret + ": the least", c.secrets(1), secret);
            due("secret " + secret + ": the greatest", c.secrets(2), secret);
        }
    }

    /** At counts 448 and 957 all secrets have the code 225. */
    private static void allThatIsSeen() {
        RollingCodes c = new RollingCodes();
        c.see(448, 225);
        c.see(957, 225);
        due("all fit", c.secrets(0), 256);
        c.see(3, c.code(9, 3));
        due("one fits", c.secrets(1), 9);
        c.see(3, c.code(9, 3));
        due("the same seen twice", c.secrets(0), 1);
        c.see(448, 226);
        due("none fits", c.secrets(0), 0);
        c.see(3, c.code(9, 3));
        due("none fits by more", c.secrets(0), 0);
    }

    private static void secretsOutside() {
        CHECK.says("SECRETS: what = 0 how many, 1 the least, 2 the greatest; NONE. OUTSIDE.");
        RollingCodes c = new RollingCodes();
        due("secrets(-1)", c.secrets(-1), OUTSIDE);
        due("secrets(3)", c.secrets(3), OUTSIDE);
        due("secrets(MIN)", c.secrets(Integer.MIN_VALUE), OUTSIDE);
        due("secrets(MAX)", c.secrets(Integer.MAX_VALUE), OUTSIDE);
        c.see(448, 0);
        due("secrets(3), none fits", c.secrets(3), OUTSIDE);
    }

    /** Each count from 0 to 60 tells all secrets apart, so the least of like ones is always 0. */
    private static void asked() {
        CHECK.says("ASK: the count (0 .. 60) by the CODE of which these are told apart best: the greatest part that is alike is least; "
                + "of like ones the least; NONE: none parts them.");
        RollingCodes c = new RollingCodes();
        due("all fit", c.ask(), 0);
        c.see(448, 225);
        due("all fit still", c.ask(), 0);
        c.see(0, 61);
        due("one fits", c.ask(), NONE);
        c.see(0, 62);
        due("none fits", c.ask(), NONE);
        c.tear();
        for (int i = 0; i < 200; i++) {
            due("all fit again, asked often", c.ask(), 0);
        }
    }

    private static void theBookFifteenAtMost() {
        CHECK.says("THE BOOK (15 at most) tells openings of GATES: FALSE: the first that is otherwise now; NONE.");
        RollingCodes c = Check.on("e0 0;g0 0 1;");
        due("told(11), nothing", c.told(11), 0);
        for (int i = 1; i <= 15; i++) {
            due("write, number " + i, c.write(0, 0), i);
            due("told(11)", c.told(11), i);
        }
        due("write, one more", c.write(0, 1), FULL);
        due("told(11), one more", c.told(11), 15);
        due("judge(), one more is not written", c.judge(), NONE);
    }

    private static void writtenBounds() {
        CHECK.says("An entry behind THE BOOK (0 .. 9999): how many. UNKNOWN, OUTSIDE, FULL (15).");
        RollingCodes c = Check.on("e0 0;g0 0 1;g0 0 1;");
        due("write(0, 0)", c.write(0, 0), 1);
        due("write(1, 9999)", c.write(1, 9999), 2);
        for (int full = 0; full <= 1; full++) {
            due("write(0, -1)", c.write(0, -1), OUTSIDE);
            due("write(0, 10000)", c.write(0, 10000), OUTSIDE);
            due("write(2, 0)", c.write(2, 0), UNKNOWN);
            due("write(-1, 0)", c.write(-1, 0), UNKNOWN);
            due("write(2, 10000)", c.write(2, 10000), UNKNOWN);
            due("write(-1, -1)", c.write(-1, -1), UNKNOWN);
            due("told(11)", c.told(11), full == 0 ? 2 : 15);
            for (int i = 0; full == 0 && i < 13; i++) {
                c.write(1, 0);
            }
        }
        due("write(1, 0), full", c.write(1, 0), FULL);
        due("write(0, 0), no street", new RollingCodes().write(0, 0), UNKNOWN);
        due("write(0, 10000), no street", new RollingCodes().write(0, 10000), UNKNOWN);
    }

    private static void falseEntries() {
        CHECK.says("`int judge()`: FALSE; NONE.");
        RollingCodes c = Check.on("e0 0;g0 5 9;g0 5 9;g0 5 9;g0 4 9;f0 5 0 0 10;");
        due("nothing written", c.judge(), NONE);
        for (int i = 0; i < 14; i++) {
            c.write(3, 0);
        }
        c.write(0, 0);
        due("all are so", c.judge(), NONE);
        c.press(0);
        due("the last is otherwise", c.judge(), 14);
        c.undo();
        due("all are so again", c.judge(), NONE);
        c.step(0, 4);
        c.press(0);
        due("the first is otherwise", c.judge(), 0);
        RollingCodes later = Check.on("e0 0;g0 5 9;g0 4 9;f0 5 0 0 10;");
        later.write(0, 1);
        later.write(1, 0);
        later.write(0, 2);
        due("one more than now", later.judge(), 0);
        later.press(0);
        due("it is so now", later.judge(), 2);
        later.press(0);
        due("one less than now", later.judge(), 0);
    }

    private static void torn() {
        CHECK.says("Nothing SEEN, THE BOOK is empty: how much both had.");
        RollingCodes c = Check.on("e0 0;g0 5 9;");
        due("tear(), nothing", c.tear(), 0);
        c.see(0, 0);
        due("tear(), one seen", c.tear(), 1);
        c.write(0, 0);
        due("tear(), one written", c.tear(), 1);
        for (int i = 0; i < 16; i++) {
            c.see(0, 0);
            c.write(0, 1);
        }
        due("tear(), both full", c.tear(), 21);
        due("told(10)", c.told(10), 0);
        due("told(11)", c.told(11), 0);
        due("judge()", c.judge(), NONE);
        due("secrets(0)", c.secrets(0), 256);
        due("tear() again", c.tear(), 0);
        due("see then", c.see(0, 61), 1);
        due("secrets(1) then", c.secrets(1), 1);
        due("write then", c.write(0, 0), 1);
        due("judge() then", c.judge(), NONE);
        due("tear(), no street", new RollingCodes().tear(), 0);
    }
}
