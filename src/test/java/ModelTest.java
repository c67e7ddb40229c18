import java.util.Random;

/** Long runs of calls by draws, each answer held against the plain model's. */
public final class ModelTest {
    private static final int RUNS = 600;
    private static final int CALLS = 512;
    private static final int CALLS_OF_THE_FACE = 36;

    private final Check check = new Check("ModelTest");
    private final Random random = new Random(20261117);
    private RollingCodes codes;
    private Model model;

    public static void main(String[] args) {
        new ModelTest().run();
    }

    private void run() {
        for (int run = 0; run < RUNS && !check.isWrong(); run++) {
            codes = new RollingCodes();
            model = new Model();
            int calls = 0;
            if (random.nextInt(20) != 0) {
                calls = feed(random.nextInt(4) == 0 ? faulty(streetText()) : streetText(), run);
            }
            if (random.nextInt(4) == 0) {
                int v = random.nextInt() & 0x7fffffff;
                check.due("run " + run + ": seed(" + v + ")", codes.seed(v), model.seed(v));
            }
            for (; calls < CALLS && !check.isWrong(); calls++) {
                call(run, calls);
            }
        }
        check.end();
    }

    private int below(int n) {
        return random.nextInt(n);
    }

    private int feed(String text, int run) {
        for (int i = 0; i < text.length(); i++) {
            check.due("run " + run + ": feed", codes.feed(text.charAt(i)), model.feed(text.charAt(i)));
        }
        check.due("run " + run + ": street() of " + text, codes.street(), model.street());
        check.due("run " + run + ": fault() of " + text, codes.fault(), model.fault());
        return text.length() + 2;
    }

    /** Few secrets and counts close by, so that codes of different fobs fall together. */
    private String streetText() {
        StringBuilder s = new StringBuilder();
        s.append("e").append(below(10)).append(' ').append(below(10)).append(";");
        int gates = below(5), fobs = below(6);
        int[] secretPool = {below(256), below(256), 0};
        int base = below(3) == 0 ? 999 - below(3) : below(990);
        for (int i = 0; i < gates + fobs; i++) {
            boolean gate = below(gates + fobs) < gates;
            if (gate && count(s, 'g') == gates) gate = false;
            if (!gate && count(s, 'f') == fobs) gate = true;
            if (gate) {
                s.append("g").append(below(4)).append(' ').append(below(10)).append(' ').append(1 + below(32)).append(";");
            } else {
                s.append("f").append(below(4)).append(' ').append(below(10)).append(' ').append(below(10)).append(' ')
                    .append(secretPool[below(3)]).append(' ').append(Math.min(999, base + below(6))).append(";");
            }
        }
        return s.toString();
    }

    private static long count(StringBuilder s, char c) {
        return s.chars().filter(x -> x == c).count();
    }

    private String faulty(String text) {
        StringBuilder s = new StringBuilder(text);
        String letters = "egf;0123456789 9 x" + (char) 200;
        for (int i = 0; i <= below(3); i++) {
            int at = below(s.length());
            switch (below(3)) {
                case 0: s.deleteCharAt(at); break;
                case 1: s.insert(at, letters.charAt(below(letters.length()))); break;
                default: s.setCharAt(at, letters.charAt(below(letters.length())));
            }
            if (s.length() == 0) break;
        }
        return s.length() > 240 ? s.substring(0, 240) : s.toString();
    }

    /** Mostly within its bounds, now and then just outside, seldom far off. */
    private int around(int least, int most) {
        int kind = below(40);
        if (kind == 0) return least - 1;
        if (kind == 1) return most + 1;
        if (kind == 2) return below(2) == 0 ? Integer.MIN_VALUE : Integer.MAX_VALUE;
        if (kind <= 4) return kind == 3 ? least : most;
        return least + below(most - least + 1);
    }

    private int aFob() { return around(0, Math.max(0, model.told(2) - 1)); }
    private int aGate() { return around(0, Math.max(0, model.told(1) - 1)); }

    private int aCode() {
        if (below(2) == 0 && model.kept(0) != Model.NONE) return model.kept(below(8));
        return around(0, 508);
    }

    private void call(int run, int number) {
        int which = below(CALLS_OF_THE_FACE + 24);
        if (which >= CALLS_OF_THE_FACE) {
            which = 9 + below(7);
        }
        String name = "run " + run + ", call " + number + ": ";
        if (which < 18) {
            callDone(name, which);
        } else {
            callTried(name, which);
        }
    }

    private void due(String name, String call, int[] args, int got, int want) {
        check.due(name + call + java.util.Arrays.toString(args), got, want);
    }

    private void callDone(String name, int which) {
        int f = aFob(), g = aGate(), x = around(0, 9), i = around(0, 7);
        int[] a = {f, g, x, i};
        boolean is = below(2) == 0;
        switch (which) {
            case 0: { int l = below(3) == 0 ? around(0, 255) : "e0 5;"
                .charAt(below(5)); due(name, "feed " + l, a, codes.feed(l), model.feed(l)); break; }
            case 1: if (below(20) == 0) { due(name, "street", a, codes.street(), model.street()); } break;
            case 2: due(name, "fault", a, codes.fault(), model.fault()); break;
            case 3: { int w = around(0, 12); due(name, "told " + w, a, codes.told(w), model.told(w)); break; }
            case 4: { int w = around(0, 6); due(name, "fob " + w, a, codes.fob(f, w), model.fob(f, w)); break; }
            case 5: { int w = around(0, 6); due(name, "gate " + w, a, codes.gate(g, w), model.gate(g, w)); break; }
            case 6: due(name, "last", a, codes.last(g, f), model.last(g, f)); break;
            case 7: due(name, "kept", a, codes.kept(i), model.kept(i)); break;
            case 8: { int s = around(0, 255), c = around(0, 9999); due(name, "code", new int[] {s, c}, codes.code(s, c), model.code(s, c)); break; }
            case 9: case 10: due(name, "press", a, codes.press(f), model.press(f)); break;
            case 11: due(name, "step", a, codes.step(f, x), model.step(f, x)); break;
            case 12: due(name, "earTo", a, codes.earTo(x), model.earTo(x)); break;
            case 13: due(name, "noise " + is, a, codes.noise(g, is), model.noise(g, is)); break;
            case 14: if (below(4) == 0) { due(name, "teach", a, codes.teach(g, f), model.teach(g, f)); } break;
            case 15: due(name, "again", a, codes.again(i), model.again(i)); break;
            case 16: due(name, "fill", a, codes.fill(f), model.fill(f)); break;
            default: { int n = around(1, 60); due(name, "drift " + n, a, codes.drift(n), model.drift(n)); }
        }
    }

    private void callTried(String name, int which) {
        int f = aFob(), g = aGate(), x = around(-1, 9), c = aCode(), i = around(0, 1);
        int[] a = {f, g, x, c, i};
        switch (which) {
            case 18: due(name, "undo", a, codes.undo(), model.undo()); break;
            case 19: due(name, "wouldOpen", a, codes.wouldOpen(f, x), model.wouldOpen(f, x)); break;
            case 20: due(name, "ahead", a, codes.ahead(g, f), model.ahead(g, f)); break;
            case 21: due(name, "locked", a, codes.locked(g, f), model.locked(g, f)); break;
            case 22: due(name, "takes", a, codes.takes(g, f), model.takes(g, f)); break;
            case 23: { int k = around(-1, 2); due(name, "row " + k, a, codes.row(k), model.row(k)); break; }
            case 24: due(name, "who", a, codes.who(c), model.who(c)); break;
            case 25: { int h = aFob(); due(name, "same " + h, a, codes.same(f, h), model.same(f, h)); break; }
            case 26: { int n = around(0, 60), q = around(0, 100); due(name, "quiet", new int[] {n, q}, codes.quiet(n, q), model.quiet(n, q)); break; }
            case 27: { int t = below(4) == 0 ? 448 : around(0, 999);
                int seenCode = below(4) == 0 ? around(0, 508) : Model.codeBy(77, Math.floorMod(t, 1000));
                due(name, "see", new int[] {t, seenCode}, codes.see(t, seenCode), model.see(t, seenCode)); break; }
            case 28: { int w = around(0, 2); due(name, "secrets " + w, a, codes.secrets(w), model.secrets(w)); break; }
            case 29: due(name, "ask", a, codes.ask(), model.ask()); break;
            case 30: { int o = below(2) == 0 ? Math.max(0, model.gate(g, 3)) : around(0, 9999);
                due(name, "write " + o, a, codes.write(g, o), model.write(g, o)); break; }
            case 31: if (below(4) == 0) { due(name, "tear", a, codes.tear(), model.tear()); } break;
            case 32: due(name, "judge", a, codes.judge(), model.judge()); break;
            case 33: { int v = random.nextInt(); due(name, "seed " + v, a, codes.seed(v), model.seed(v)); break; }
            case 34: due(name, "keep", a, codes.keep(i), model.keep(i)); break;
            default: due(name, "goBack", a, codes.goBack(i), model.goBack(i));
        }
    }
}
