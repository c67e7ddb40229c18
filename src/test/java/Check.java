import java.util.ArrayList;
import java.util.List;

/** Counts answers that are not the ones due, and tells the first of them. */
final class Check {
    private static final int TOLD_AT_MOST = 40;

    private final String name;
    private String sentence = "";
    private int asked;
    private int wrong;

    Check(String name) {
        this.name = name;
    }

    /** What is due from here on is what this sentence of the document says; it is quoted to the letter. */
    void says(String quoted) {
        sentence = "";
        isSo("the document has the sentence '" + quoted + "'", Doc.has(quoted));
        sentence = " [" + quoted + "]";
    }

    void due(String call, long got, long want) {
        asked++;
        if (got == want) {
            return;
        }
        wrong++;
        if (wrong <= TOLD_AT_MOST) {
            System.out.println(name + ": " + call + " answered " + got + ", due is " + want + sentence);
        }
    }

    void isSo(String what, boolean so) {
        due(what, so ? 1 : 0, 1);
    }

    boolean isWrong() {
        return wrong > 0;
    }

    void end() {
        System.out.println(name + ": " + asked + " answers, " + wrong + " not as due");
        if (wrong > 0 || asked == 0) {
            System.exit(1);
        }
    }

    static void feed(RollingCodes codes, String text) {
        for (int i = 0; i < text.length(); i++) {
            codes.feed(text.charAt(i));
        }
    }

    /** A new object on the street that the text tells. */
    static RollingCodes on(String text) {
        RollingCodes codes = new RollingCodes();
        feed(codes, text);
        int answer = codes.street();
        if (answer < 0) {
            throw new IllegalStateException("street(): " + answer + " at " + codes.fault() + " of " + text);
        }
        return codes;
    }

    static void pressTimes(RollingCodes codes, int f, int times) {
        for (int i = 0; i < times; i++) {
            codes.press(f);
        }
    }

    /** All that can be asked and that changes nothing, for "nothing is changed". */
    static List<Integer> all(RollingCodes codes) {
        List<Integer> rows = new ArrayList<>(scene(codes));
        rows.add(codes.fault());
        for (int what = 0; what <= 12; what++) {
            rows.add(codes.told(what));
        }
        for (int what = 0; what <= 2; what++) {
            rows.add(codes.secrets(what));
        }
        rows.add(codes.judge());
        return rows;
    }

    /** All of section 2 that can be asked, and the hours. */
    static List<Integer> scene(RollingCodes codes) {
        List<Integer> rows = new ArrayList<>();
        for (int what : new int[] {0, 1, 2, 4, 5, 6, 7, 8, 9}) {
            rows.add(codes.told(what));
        }
        for (int f = 0; f < codes.told(2); f++) {
            for (int what = 0; what <= 6; what++) {
                rows.add(codes.fob(f, what));
            }
        }
        for (int g = 0; g < codes.told(1); g++) {
            for (int what = 0; what <= 6; what++) {
                rows.add(codes.gate(g, what));
            }
            for (int f = 0; f < codes.told(2); f++) {
                rows.add(codes.last(g, f));
            }
        }
        for (int i = 0; i < 8; i++) {
            rows.add(codes.kept(i));
        }
        return rows;
    }
}
