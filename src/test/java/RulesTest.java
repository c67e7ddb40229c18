import java.io.IOException;
import java.lang.management.ManagementFactory;
import java.lang.reflect.Field;
import java.lang.reflect.InvocationTargetException;
import java.lang.reflect.Method;
import java.lang.reflect.Modifier;
import java.nio.file.Files;
import java.nio.file.Path;
import java.util.ArrayList;
import java.util.Arrays;
import java.util.List;
import java.util.Set;
import java.util.TreeSet;

/** The face of the document, the rules of LANGUAGE.md that can be looked at, and that no call throws. */
public final class RulesTest {
    private static final Check CHECK = new Check("RulesTest");
    private static final Path SOURCE = Path.of("src/main/java/RollingCodes.java");
    private static final String[] FACE = {
        "feed(int)", "street()", "fault()", "told(int)", "fob(int,int)", "gate(int,int)", "last(int,int)", "kept(int)",
        "code(int,int)", "press(int)", "step(int,int)", "earTo(int)", "noise(int,boolean)", "teach(int,int)", "again(int)",
        "fill(int)", "drift(int)", "undo()", "wouldOpen(int,int)", "ahead(int,int)", "locked(int,int)", "takes(int,int)",
        "row(int)", "who(int)", "same(int,int)", "quiet(int,int)", "see(int,int)", "secrets(int)", "ask()", "write(int,int)",
        "tear()", "judge()", "seed(int)", "keep(int)", "goBack(int)"};
    private static final int[] EDGES = {
        Integer.MIN_VALUE, -1000000001, -11, -2, -1, 0, 1, 2, 3, 4, 5, 6, 7, 8, 9, 10, 12, 13, 31, 32, 60, 61, 100, 101,
        255, 256, 508, 509, 999, 1000, 9999, 10000, Integer.MAX_VALUE};
    private static final String BUSY = "e5 4;g0 5 3;g1 6 3;g2 4 30;g3 5 30;f0 5 9 0 10;f1 5 9 7 20;f2 1 5 7 21;f3 2 2 0 14;f0 9 9 0 11;";

    public static void main(String[] args) throws Exception {
        face();
        constants();
        membersInside();
        words();
        shortMethods();
        noCallThrows(new RollingCodes());
        noCallThrows(Check.on("e0 0;"));
        noCallThrows(Check.on("e0 0;g0 0 1;"));
        noCallThrows(Check.on("e0 0;f0 0 0 0 0;"));
        noCallThrows(Check.on(BUSY));
        smallRoom();
        CHECK.end();
    }

    private static String signature(Method m) {
        List<String> types = new ArrayList<>();
        for (Class<?> type : m.getParameterTypes()) {
            types.add(type.getSimpleName());
        }
        return m.getName() + "(" + String.join(",", types) + ")";
    }

    private static void face() {
        Set<String> open = new TreeSet<>();
        for (Method m : RollingCodes.class.getDeclaredMethods()) {
            if (!Modifier.isPrivate(m.getModifiers())) {
                open.add(signature(m));
                CHECK.isSo(m + " is public", Modifier.isPublic(m.getModifiers()));
                CHECK.isSo(m + " answers an int", m.getReturnType() == int.class);
            }
        }
        CHECK.isSo("the methods of the document: " + open, open.equals(new TreeSet<>(Arrays.asList(FACE))));
        CHECK.isSo("the document's own face: " + Doc.face(), Doc.face().isEmpty() || Doc.face().equals(open));
        CHECK.isSo("public and final", Modifier.isFinal(RollingCodes.class.getModifiers()) && Modifier.isPublic(RollingCodes.class.getModifiers()));
        CHECK.due("constructors", RollingCodes.class.getDeclaredConstructors().length, 1);
    }

    private static void constants() {
        Set<String> open = new TreeSet<>();
        for (Field f : RollingCodes.class.getDeclaredFields()) {
            if (!Modifier.isPrivate(f.getModifiers())) {
                open.add(f.getName());
            }
        }
        CHECK.isSo("the constants of the document: " + open, open.equals(Set.of("NONE", "UNKNOWN", "OUTSIDE", "NOT", "FULL")));
        CHECK.due("NONE", RollingCodes.NONE, -1);
        CHECK.due("UNKNOWN", RollingCodes.UNKNOWN, -1000000001);
        CHECK.due("OUTSIDE", RollingCodes.OUTSIDE, -1000000002);
        CHECK.due("NOT", RollingCodes.NOT, -1000000003);
        CHECK.due("FULL", RollingCodes.FULL, -1000000004);
    }

    private static List<Class<?>> classes() {
        List<Class<?>> all = new ArrayList<>();
        all.add(RollingCodes.class);
        all.addAll(Arrays.asList(RollingCodes.class.getDeclaredClasses()));
        return all;
    }

    private static void membersInside() {
        Set<String> names = new TreeSet<>();
        for (String call : FACE) {
            names.add(call.substring(0, call.indexOf('(')));
        }
        CHECK.isSo("twelve classes at most", classes().size() <= 12);
        for (Class<?> type : classes()) {
            if (type != RollingCodes.class) {
                CHECK.isSo(type + " is static", Modifier.isStatic(type.getModifiers()));
            }
            int fields = 0;
            for (Field f : type.getDeclaredFields()) {
                boolean isStatic = Modifier.isStatic(f.getModifiers());
                fields += isStatic ? 0 : 1;
                CHECK.isSo(f + " is final, if it is static", !isStatic || Modifier.isFinal(f.getModifiers()));
            }
            CHECK.isSo(type + " has twenty fields at most", fields <= 20);
            for (Method m : type.getDeclaredMethods()) {
                CHECK.isSo(m + " has seven parameters at most", m.getParameterCount() <= 7);
                CHECK.isSo(m + " has a name of its own", Modifier.isPublic(m.getModifiers()) || !names.contains(m.getName()));
            }
        }
    }

    private static String code() throws IOException {
        return Files.readString(SOURCE).replaceAll("(?s)/\\*.*?\\*/", "").replaceAll("//.*", "");
    }

    private static void words() throws IOException {
        String code = code();
        for (String word : new String[] {"throw", "throws", "try", "catch", "finally", "synchronized", "assert", "import", "package",
            "protected", "volatile", "native", "var", "yield", "Object", "System.out", "hashCode", "toString"}) {
            CHECK.isSo("no " + word, !code.matches("(?s).*\\b" + word.replace(".", "\\.") + "\\b.*"));
        }
        for (String sign : new String[] {"->", "::", "@", "Exact"}) {
            CHECK.isSo("no " + sign, !code.contains(sign));
        }
        CHECK.isSo("signs 1 to 127 alone", Files.readString(SOURCE).chars().allMatch(c -> c >= 1 && c <= 127));
    }

    private static void shortMethods() throws IOException {
        List<String> lines = Files.readAllLines(SOURCE);
        int start = -1;
        String indent = "";
        for (int i = 0; i < lines.size(); i++) {
            String line = lines.get(i);
            if (line.matches("\\s+(public|private)[^=;]*\\) \\{")) {
                start = i;
                indent = line.substring(0, line.indexOf('p'));
            } else if (start >= 0 && line.equals(indent + "}")) {
                CHECK.isSo(lines.get(start).trim() + " has sixty lines at most", i - start < 60);
                start = -1;
            }
        }
    }

    private static void noCallThrows(RollingCodes codes) throws IllegalAccessException {
        for (int round = 0; round < 2; round++) {
            for (Method m : RollingCodes.class.getDeclaredMethods()) {
                if (Modifier.isPublic(m.getModifiers()) && !(round == 0 && m.getName().equals("street"))) {
                    callWithEdges(codes, m);
                }
            }
        }
    }

    private static void callWithEdges(RollingCodes codes, Method m) throws IllegalAccessException {
        if (m.getParameterCount() == 0) {
            callOnce(codes, m);
            return;
        }
        for (int first : EDGES) {
            if (m.getParameterCount() == 1) {
                callOnce(codes, m, first);
            } else if (m.getParameterTypes()[1] == boolean.class) {
                callOnce(codes, m, first, true);
                callOnce(codes, m, first, false);
            } else {
                for (int second : EDGES) {
                    callOnce(codes, m, first, second);
                }
            }
        }
    }

    private static void callOnce(RollingCodes codes, Method m, Object... args) throws IllegalAccessException {
        boolean ended = true;
        try {
            m.invoke(codes, args);
        } catch (InvocationTargetException thrown) {
            ended = false;
            System.out.println(thrown.getCause());
        }
        CHECK.isSo(m.getName() + Arrays.toString(args) + " does not throw", ended);
    }

    /** Nothing is made but by the constructor, and that is small. */
    private static void smallRoom() {
        com.sun.management.ThreadMXBean bean = (com.sun.management.ThreadMXBean) ManagementFactory.getThreadMXBean();
        long id = Thread.currentThread().getId();
        RollingCodes codes = Check.on(BUSY);
        useAll(codes);
        bean.getThreadAllocatedBytes(id);
        long before = bean.getThreadAllocatedBytes(id);
        for (int i = 0; i < 10; i++) {
            useAll(codes);
        }
        long used = bean.getThreadAllocatedBytes(id) - before;
        CHECK.isSo("calls make next to nothing: " + used + " bytes", used < 4096);
        before = bean.getThreadAllocatedBytes(id);
        RollingCodes another = new RollingCodes();
        used = bean.getThreadAllocatedBytes(id) - before;
        CHECK.isSo("an object is small: " + used + " bytes", used < 40000 && another.told(0) == 0);
    }

    private static void useAll(RollingCodes codes) {
        codes.press(0);
        codes.press(1);
        codes.again(0);
        codes.fill(0);
        codes.drift(60);
        codes.undo();
        codes.wouldOpen(0, -1);
        codes.fob(0, 6);
        codes.gate(0, 6);
        codes.locked(2, 0);
        codes.takes(2, 0);
        codes.row(-1);
        codes.who(3);
        codes.same(0, 1);
        codes.see(1, 1);
        codes.ask();
        codes.secrets(0);
        codes.write(0, 0);
        codes.judge();
        codes.tear();
        codes.keep(0);
        codes.goBack(0);
        codes.feed(' ');
    }
}
