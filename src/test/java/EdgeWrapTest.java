/**
 * A COUNT of 9999 goes on to 0, and openings end at 9999, sentence by sentence. The fobs are pressed there one by
 * one, far beyond the 512 calls that the document promises: the class does not count its calls. WrapTest gets
 * there within 512 calls.
 */
public final class EdgeWrapTest {
    private static final Check CHECK = new Check("EdgeWrapTest");
    private static final int NONE = RollingCodes.NONE;
    private static final int COUNTS = 10000;

    public static void main(String[] args) {
        plainGoesOn();
        tiredGoesOn();
        eagerGoesOn();
        aheadGoesOn();
        windowsGoOn();
        laxGoesOn();
        waryGoesOn();
        lockedGoesOn();
        takesGoesOn();
        usefulGoesOn();
        whoGoesOn();
        sameGoesOn();
        openingsEnd();
        CHECK.end();
    }

    private static void due(String call, int got, int want) {
        CHECK.due(call, got, want);
    }

    private static void pressTo(RollingCodes c, int f, int count) {
        for (int i = 0; i <= COUNTS && c.fob(f, 4) != count; i++) {
            if (c.fob(f, 5) == 0) {
                c.fill(f);
            }
            c.press(f);
        }
        c.fill(f);
        due("the count is there", c.fob(f, 4), count);
    }

    /** Each gate in noise, fob 0 at the count, each gate taught it. */
    private static RollingCodes taughtAt(String street, int count) {
        RollingCodes c = Check.on(street);
        for (int g = 0; g < c.told(1); g++) {
            c.noise(g, true);
        }
        pressTo(c, 0, count);
        for (int g = 0; g < c.told(1); g++) {
            c.teach(g, 0);
        }
        return c;
    }

    private static RollingCodes hearing(RollingCodes c) {
        for (int g = 0; g < c.told(1); g++) {
            c.noise(g, false);
        }
        return c;
    }

    private static void plainGoesOn() {
        CHECK.says("A COUNT of 9999 goes on to 0.");
        RollingCodes c = hearing(taughtAt("e5 0;g1 5 1;f0 5 0 7 999;", 9998));
        due("plain: press to 9999", c.press(0), 1);
        due("plain: 9999", c.fob(0, 4), 9999);
        due("plain: kept(0)", c.kept(0), c.code(7, 9999));
        due("plain: press to 0", c.press(0), 1);
        due("plain: 0", c.fob(0, 4), 0);
        due("plain: kept(0) of 0", c.kept(0), c.code(7, 0));
        due("plain: last", c.last(0, 0), 0);
        due("plain: press to 1", c.press(0), 1);
        due("plain: 1", c.fob(0, 4), 1);
        due("plain: openings", c.gate(0, 3), 3);
        due("plain: teach", c.teach(0, 0), 1);
    }

    private static void tiredGoesOn() {
        RollingCodes c = taughtAt("e5 0;f2 5 0 7 999;", 9999);
        c.press(0);
        due("tired: 0", c.fob(0, 4), 0);
        due("tired: kept(0)", c.kept(0), c.code(7, 0));
    }

    private static void eagerGoesOn() {
        RollingCodes odd = hearing(taughtAt("e5 0;g1 5 1;f1 5 0 7 999;", 9999));
        due("eager: press over 9999", odd.press(0), 1);
        due("eager: 1", odd.fob(0, 4), 1);
        due("eager: kept(0)", odd.kept(0), odd.code(7, 1));
        due("eager: kept(1)", odd.kept(1), odd.code(7, 0));
        due("eager: last", odd.last(0, 0), 1);
        due("eager: openings", odd.gate(0, 3), 2);
        RollingCodes even = hearing(taughtAt("e5 0;g1 5 1;f1 5 0 7 998;", 9998));
        due("eager: press on to 0", even.press(0), 1);
        due("eager: 0", even.fob(0, 4), 0);
        due("eager: kept(0)", even.kept(0), even.code(7, 0));
        due("eager: kept(1)", even.kept(1), even.code(7, 9999));
        due("eager: last", even.last(0, 0), 0);
    }

    private static void aheadGoesOn() {
        CHECK.says("AHEAD is how much a count is more than LAST (9999 less goes on to 0: left over by 10000).");
        RollingCodes c = taughtAt("e5 0;g0 5 1;g0 4 1;f0 5 0 7 999;", 9998);
        for (int ahead = 1; ahead <= 5; ahead++) {
            c.press(0);
            due("ahead of 9998", c.ahead(0, 0), ahead);
        }
        c.teach(1, 0);
        due("ahead of 3", c.ahead(1, 0), 0);
        due("last", c.last(1, 0), 3);
        c.press(0);
        due("ahead of 3 then", c.ahead(1, 0), 1);
    }

    private static void windowsGoOn() {
        CHECK.says("for each through AHEAD 1 to WINDOW (counts LAST and that)");
        for (int ahead : new int[] {9, 10, 11, 32, 33}) {
            RollingCodes c = taughtAt("e5 0;g0 5 32;f0 5 0 7 999;", 9990);
            pressTo(c, 0, (9990 + ahead - 1) % COUNTS);
            hearing(c);
            due(ahead + " ahead of 9990", c.press(0), ahead <= 32 ? 1 : 0);
            due(ahead + " ahead of 9990: last", c.last(0, 0), ahead <= 32 ? (9990 + ahead) % COUNTS : 9990);
        }
    }

    private static void laxGoesOn() {
        CHECK.says("2 (lax): AHEAD 0 counts as well, ahead of 1.");
        RollingCodes c = hearing(taughtAt("e5 0;g2 5 1;f0 5 0 7 999;", 9999));
        c.press(0);
        due("the last, 0, again", c.again(0), 1);
        due("the one ahead of it, 9999, again", c.again(1), 0);
        due("last", c.last(0, 0), 0);
    }

    private static void waryGoesOn() {
        CHECK.says("WAITS (in place of what it waited for) for just the next count of that FOB, LAST stays");
        RollingCodes c = taughtAt("e5 0;g3 5 20;f0 5 0 7 999;", 9990);
        pressTo(c, 0, 9998);
        hearing(c);
        due("9999 is far ahead", c.press(0), 0);
        due("it waits for 0", c.gate(0, 5), 0);
        due("it waits for fob 0", c.gate(0, 4), 0);
        due("last stays", c.last(0, 0), 9990);
        due("0 opens", c.press(0), 1);
        due("last", c.last(0, 0), 0);
        due("it waits no more", c.gate(0, 5), NONE);
        RollingCodes next = taughtAt("e5 0;g3 5 20;f0 5 0 7 999;", 9990);
        pressTo(next, 0, 9999);
        hearing(next);
        due("0 is far ahead", next.press(0), 0);
        due("it waits for 1", next.gate(0, 5), 1);
        due("1 opens", next.press(0), 1);
        RollingCodes near = taughtAt("e5 0;g3 5 20;f0 5 0 7 999;", 9997);
        pressTo(near, 0, 0);
        hearing(near);
        due("1 is 4 ahead of 9997", near.press(0), 1);
    }

    private static void lockedGoesOn() {
        CHECK.says("LOCKED: how often a FOB can be PRESSED in NOISE everywhere (0 .. 60 times)");
        RollingCodes c = taughtAt("e5 0;g0 5 32;g1 5 32;g2 5 32;g3 5 32;f0 5 0 7 999;", 9990);
        int[] want = {32, 1, 32, 4};
        for (int g = 0; g < 4; g++) {
            due("plain at gate " + g, c.locked(g, 0), want[g]);
        }
        due("eager", taughtAt("e5 0;g0 5 32;f1 5 0 7 999;", 9991).locked(0, 0), 16);
    }

    private static void takesGoesOn() {
        CHECK.says("TAKES: by which press (1 .. 10,");
        RollingCodes c = taughtAt("e5 0;g3 5 20;f0 5 0 7 999;", 9993);
        pressTo(c, 0, 9998);
        due("9999 is far ahead, 0 the next", c.takes(0, 0), 2);
        due("count", c.fob(0, 4), 9998);
        RollingCodes one = taughtAt("e5 0;g1 5 20;f0 5 0 7 999;", 9999);
        due("0 is the very next", one.takes(0, 0), 1);
    }

    private static void usefulGoesOn() {
        CHECK.says("entries THE EAR keeps (a SET; 0 the latest) which, sent again now, would open it");
        RollingCodes c = taughtAt("e5 0;g0 5 4;g3 5 20;f0 5 0 7 999;", 9997);
        pressTo(c, 0, 5);
        due("9998 to 1 of 5", c.gate(0, 6), 0b11110000);
        due("9998 to 1 of 5, wary", c.gate(1, 6), 0b11110000);
    }

    private static void whoGoesOn() {
        CHECK.says("by one of their next 40 counts (COUNT and 1 on; an old one: COUNT alone).");
        RollingCodes c = taughtAt("e5 0;f0 5 0 0 999;", 9980);
        due("9980", c.who(c.code(0, 9980)), 0);
        due("9981", c.who(c.code(0, 9981)), 1);
        due("9999", c.who(c.code(0, 9999)), 1);
        due("0", c.who(c.code(0, 0)), 1);
        due("20", c.who(c.code(0, 20)), 1);
        due("21", c.who(c.code(0, 21)), 0);
    }

    /** 13 (k - 10) and 61 + 14 (10 + k) are alike, left over by 509, for k = 178; up to 9999 none are. */
    private static void sameGoesOn() {
        CHECK.says("SAME of two FOBS: the least k (1 .. 200) for which the CODES of COUNT and k of both are alike");
        RollingCodes c = taughtAt("e5 0;f0 5 0 0 999;f0 5 0 1 10;", 9990);
        due("same(0, 1)", c.same(0, 1), 178);
        due("same(1, 0)", c.same(1, 0), 178);
    }

    private static void openingsEnd() {
        CHECK.says("openings of the GATE are one more (9999 at most)");
        RollingCodes c = Check.on("e5 0;g2 5 1;g2 5 1;g2 5 1;g2 5 1;f3 5 0 0 10;");
        for (int i = 0; i < 9998; i++) {
            if (c.fob(0, 5) == 0) {
                c.fill(0);
            }
            c.press(0);
        }
        due("openings, 9998", c.gate(0, 3), 9998);
        c.fill(0);
        for (int i = 0; i < 3; i++) {
            due("press(0)", c.press(0), 15);
            due("openings, 9999", c.gate(0, 3), 9999);
            due("openings of the last gate, 9999", c.gate(3, 3), 9999);
        }
        due("told(9)", c.told(9), 4 * 9999);
        c.write(2, 9999);
        due("judge()", c.judge(), NONE);
        c.write(2, 9998);
        due("judge(), one less", c.judge(), 1);
    }
}
