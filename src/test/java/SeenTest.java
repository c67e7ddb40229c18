import java.util.List;

/** Promises 28 to 36: what is seen, the book, the seed, images. */
public final class SeenTest {
    private static final Check CHECK = new Check("SeenTest");
    private static final String STREET = "e5 9;g0 5 3;g2 6 3;f0 5 9 0 10;f1 5 9 7 20;";

    public static void main(String[] args) {
        seeing();
        secrets();
        asking();
        writing();
        judging();
        tearing();
        seeding();
        images();
        imagesKeepTheSeed();
        imagesAndWhatIsUndone();
        imagesLeaveTheRest();
        imagesWithoutAStreet();
        CHECK.end();
    }

    private static void due(String call, int got, int want) {
        CHECK.due(call, got, want);
    }

    private static void seeing() {
        RollingCodes c = new RollingCodes();
        due("see(-1, 0)", c.see(-1, 0), RollingCodes.OUTSIDE);
        due("see(1000, 0)", c.see(1000, 0), RollingCodes.OUTSIDE);
        due("see(0, -1)", c.see(0, -1), RollingCodes.OUTSIDE);
        due("see(0, 509)", c.see(0, 509), RollingCodes.OUTSIDE);
        for (int i = 1; i <= 6; i++) {
            due("see(999, 508)", c.see(999, 508), i);
        }
        due("see: a seventh", c.see(0, 0), RollingCodes.FULL);
        due("see: a seventh outside", c.see(0, 509), RollingCodes.OUTSIDE);
        due("told(10)", c.told(10), 6);
    }

    private static void secrets() {
        RollingCodes c = new RollingCodes();
        due("secrets(0), nothing seen", c.secrets(0), 256);
        due("secrets(1), nothing seen", c.secrets(1), 0);
        due("secrets(2), nothing seen", c.secrets(2), 255);
        due("secrets(3)", c.secrets(3), RollingCodes.OUTSIDE);
        due("secrets(-1)", c.secrets(-1), RollingCodes.OUTSIDE);
        c.see(448, 225);
        due("secrets(0), count 448 tells nothing", c.secrets(0), 256);
        c.see(10, c.code(200, 10));
        due("secrets(0), one", c.secrets(0), 1);
        due("secrets(1), one", c.secrets(1), 200);
        due("secrets(2), one", c.secrets(2), 200);
        c.see(11, c.code(200, 11));
        due("secrets(0), still one", c.secrets(0), 1);
        c.see(12, c.code(201, 12));
        due("secrets(0), none", c.secrets(0), 0);
        due("secrets(1), none", c.secrets(1), RollingCodes.NONE);
        due("secrets(2), none", c.secrets(2), RollingCodes.NONE);
        c.tear();
        c.see(0, 0);
        due("secrets(2), secret 0 alone", c.secrets(2), 0);
    }

    private static void asking() {
        RollingCodes c = new RollingCodes();
        due("ask(), all fit", c.ask(), 0);
        c.see(957, 225);
        due("ask(), all fit still", c.ask(), 0);
        c.see(10, c.code(200, 10));
        due("ask(), one fits", c.ask(), RollingCodes.NONE);
        c.see(11, c.code(201, 11));
        due("ask(), none fits", c.ask(), RollingCodes.NONE);
    }

    private static void writing() {
        RollingCodes c = Check.on(STREET);
        due("write(2, 0)", c.write(2, 0), RollingCodes.UNKNOWN);
        due("write(-1, -1)", c.write(-1, -1), RollingCodes.UNKNOWN);
        due("write(0, -1)", c.write(0, -1), RollingCodes.OUTSIDE);
        due("write(0, 10000)", c.write(0, 10000), RollingCodes.OUTSIDE);
        for (int i = 1; i <= 15; i++) {
            due("write(0, 9999)", c.write(0, 9999), i);
        }
        due("write: a sixteenth", c.write(1, 0), RollingCodes.FULL);
        due("write: a sixteenth outside", c.write(1, -1), RollingCodes.OUTSIDE);
        due("told(11)", c.told(11), 15);
        due("no street: write(0, 0)", new RollingCodes().write(0, 0), RollingCodes.UNKNOWN);
    }

    private static void judging() {
        RollingCodes c = Check.on(STREET);
        due("judge(), no book", c.judge(), RollingCodes.NONE);
        c.write(0, 0);
        c.write(1, 0);
        due("judge(), all true", c.judge(), RollingCodes.NONE);
        c.write(1, 1);
        due("judge(), the third", c.judge(), 2);
        c.noise(0, true);
        c.press(0);
        due("judge(), the second", c.judge(), 1);
        c.undo();
        due("judge(), the third again", c.judge(), 2);
        c.noise(0, false);
        c.press(0);
        due("judge(), the first", c.judge(), 0);
    }

    private static void tearing() {
        RollingCodes c = Check.on(STREET);
        due("tear(), nothing", c.tear(), 0);
        c.see(1, 1);
        c.see(2, 2);
        c.write(0, 5);
        due("tear()", c.tear(), 3);
        due("tear(): seen", c.told(10), 0);
        due("tear(): the book", c.told(11), 0);
        due("tear(): judge()", c.judge(), RollingCodes.NONE);
        due("tear(): secrets(0)", c.secrets(0), 256);
        due("tear(): see", c.see(3, 3), 1);
        due("tear(): write", c.write(0, 5), 1);
    }

    private static void seeding() {
        RollingCodes c = new RollingCodes();
        due("seed(2147483647)", c.seed(2147483647), 0);
        due("seed(-1)", c.seed(-1), RollingCodes.OUTSIDE);
        due("seed(-2147483648)", c.seed(Integer.MIN_VALUE), RollingCodes.OUTSIDE);
        due("seed(3)", c.seed(3), 2147483647);
        due("seed(0)", c.seed(0), 3);
    }

    private static void images() {
        RollingCodes c = Check.on(STREET);
        due("goBack(0), not kept", c.goBack(0), RollingCodes.NOT);
        due("goBack(2)", c.goBack(2), RollingCodes.UNKNOWN);
        due("goBack(-1)", c.goBack(-1), RollingCodes.UNKNOWN);
        due("keep(2)", c.keep(2), RollingCodes.UNKNOWN);
        due("keep(-1)", c.keep(-1), RollingCodes.UNKNOWN);
        c.press(0);
        c.step(1, 3);
        List<Integer> first = Check.scene(c);
        due("keep(0)", c.keep(0), 1);
        c.seed(9);
        c.drift(50);
        c.earTo(c.told(5) == 1 ? 2 : 1);
        List<Integer> second = Check.scene(c);
        due("keep(1)", c.keep(1), 1);
        due("goBack(0)", c.goBack(0), 1);
        CHECK.isSo("image 0", first.equals(Check.scene(c)));
        c.press(1);
        due("goBack(1)", c.goBack(1), 1);
        CHECK.isSo("image 1", second.equals(Check.scene(c)));
        c.press(1);
        c.goBack(0);
        CHECK.isSo("image 0 stays", first.equals(Check.scene(c)));
        c.press(0);
        List<Integer> third = Check.scene(c);
        c.keep(0);
        c.press(0);
        c.goBack(0);
        CHECK.isSo("image 0 anew", third.equals(Check.scene(c)));
    }

    private static void imagesKeepTheSeed() {
        RollingCodes c = Check.on(STREET);
        c.seed(9);
        c.keep(0);
        c.drift(7);
        c.goBack(0);
        due("the seed of the image", c.seed(0), 9);
        due("the hours of the image", c.told(4), 0);
    }

    private static void imagesAndWhatIsUndone() {
        RollingCodes c = Check.on(STREET);
        c.press(0);
        c.keep(2);
        due("a refused keep: told(12)", c.told(12), 1);
        c.goBack(1);
        due("a refused goBack: told(12)", c.told(12), 1);
        c.keep(1);
        due("keep: told(12)", c.told(12), 0);
        due("keep: undo()", c.undo(), RollingCodes.NOT);
        c.press(0);
        c.goBack(1);
        due("goBack: told(12)", c.told(12), 0);
        due("goBack: undo()", c.undo(), RollingCodes.NOT);
    }

    private static void imagesLeaveTheRest() {
        RollingCodes c = Check.on(STREET);
        c.keep(0);
        c.see(1, 1);
        c.write(0, 1);
        c.feed('e');
        c.goBack(0);
        due("goBack: seen stays", c.told(10), 1);
        due("goBack: the book stays", c.told(11), 1);
        due("goBack: the text stays", c.told(3), 1);
    }

    private static void imagesWithoutAStreet() {
        RollingCodes c = new RollingCodes();
        due("no street: goBack(0)", c.goBack(0), RollingCodes.NOT);
        c.seed(4);
        due("no street: keep(0)", c.keep(0), 1);
        c.seed(5);
        due("no street: goBack(0) then", c.goBack(0), 1);
        due("no street: the seed", c.seed(0), 4);
    }
}
