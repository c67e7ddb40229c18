import java.util.ArrayDeque;
import java.util.ArrayList;
import java.util.Deque;
import java.util.HashMap;
import java.util.List;
import java.util.Map;
import java.util.TreeSet;
import java.util.stream.Collectors;
import java.util.stream.IntStream;

/**
 * The document once more, slow and plain, with lists and copies and without any of the
 * class's shortcuts: ModelTest holds the class against it.
 */
final class Model {
    static final int NONE = -1, UNKNOWN = -1000000001, OUTSIDE = -1000000002, NOT = -1000000003, FULL = -1000000004;

    static final class Fob {
        int kind, place, range, secret, count, battery = 60;

        Fob copy() {
            Fob c = new Fob();
            c.kind = kind; c.place = place; c.range = range; c.secret = secret; c.count = count; c.battery = battery;
            return c;
        }
    }

    static final class Gate {
        int kind, place, window, openings, waitsFob = NONE, waitsCount = NONE;
        boolean noise;
        List<Integer> last = new ArrayList<>();

        Gate copy() {
            Gate c = new Gate();
            c.kind = kind; c.place = place; c.window = window; c.openings = openings;
            c.waitsFob = waitsFob; c.waitsCount = waitsCount; c.noise = noise;
            c.last = new ArrayList<>(last);
            return c;
        }
    }

    static final class State {
        boolean there;
        int earPlace, earRange, hours;
        List<Fob> fobs = new ArrayList<>();
        List<Gate> gates = new ArrayList<>();
        List<Integer> kept = new ArrayList<>();

        State copy() {
            State c = new State();
            c.there = there; c.earPlace = earPlace; c.earRange = earRange; c.hours = hours;
            for (Fob f : fobs) c.fobs.add(f.copy());
            for (Gate g : gates) c.gates.add(g.copy());
            c.kept.addAll(kept);
            return c;
        }

        /** Whether gate g opens to the code; it is changed by it. */
        boolean hear(int g, int code) {
            Gate gate = gates.get(g);
            if (gate.waitsFob != NONE && codeBy(fobs.get(gate.waitsFob).secret, gate.waitsCount) == code) {
                return opens(gate, gate.waitsFob, gate.waitsCount);
            }
            List<int[]> tries = new ArrayList<>();
            int window = gate.kind == 1 ? 1 : gate.window;
            for (int f = 0; f < fobs.size(); f++) {
                for (int ahead = gate.kind == 2 ? 0 : 1; ahead <= window; ahead++) {
                    tries.add(new int[] {f, ahead, (gate.last.get(f) + ahead) % 10000});
                }
            }
            for (int[] t : tries) {
                if (codeBy(fobs.get(t[0]).secret, t[2]) != code) continue;
                if (gate.kind != 3 || t[1] <= 4) return opens(gate, t[0], t[2]);
                gate.waitsFob = t[0];
                gate.waitsCount = t[2] == 9999 ? 0 : t[2] + 1;
                return false;
            }
            return false;
        }

        private boolean opens(Gate gate, int f, int count) {
            gate.last.set(f, count);
            gate.openings = gate.openings == 9999 ? 9999 : gate.openings + 1;
            gate.waitsFob = NONE;
            gate.waitsCount = NONE;
            return true;
        }

        int send(int code, int from, int range) {
            int set = 0;
            for (int g = 0; g < gates.size(); g++) {
                Gate gate = gates.get(g);
                boolean near = gate.place >= from - range && gate.place <= from + range;
                if (near && !gate.noise && hear(g, code)) set += 1 << g;
            }
            return set;
        }

        List<Integer> codesOfPress(int f) {
            Fob fob = fobs.get(f);
            List<Integer> codes = new ArrayList<>();
            for (int i = 0; i < (fob.kind == 1 ? 2 : 1); i++) {
                if (fob.kind != 3) fob.count = fob.count == 9999 ? 0 : fob.count + 1;
                codes.add(codeBy(fob.secret, fob.count));
            }
            return codes;
        }

        int pressAt(int f, int from) {
            Fob fob = fobs.get(f);
            if (fob.battery == 0) return 0;
            fob.battery--;
            int range = fob.kind == 2 && fob.battery < 20 ? fob.range / 2 : fob.range;
            int set = 0;
            for (int code : codesOfPress(f)) {
                set |= send(code, from, range);
                int ear = range > earRange ? range : earRange;
                if (Math.abs(from - earPlace) <= ear) {
                    kept.add(0, code);
                    if (kept.size() > 8) kept.remove(8);
                }
            }
            return set;
        }

        boolean pressBeside(int g, int f) {
            boolean opened = false;
            for (int code : codesOfPress(f)) if (hear(g, code)) opened = true;
            return opened;
        }
    }

    private final StringBuilder text = new StringBuilder();
    private State now = new State();
    private int faultAt = NONE;
    private long seed = 0;
    private final Deque<State> past = new ArrayDeque<>();
    private final State[] images = new State[2];
    private final long[] imageSeeds = new long[2];
    private final List<int[]> seen = new ArrayList<>();
    private final List<int[]> book = new ArrayList<>();

    static int codeBy(int secret, int count) {
        return Math.floorMod(secret * 61L + count * 13L + (long) secret * count, 509);
    }

    private boolean noFob(int f) { return f < 0 || f >= now.fobs.size(); }
    private boolean noGate(int g) { return g < 0 || g >= now.gates.size(); }
    private static boolean out(int v, int least, int most) { return v < least || v > most; }

    private void remember() {
        past.addLast(now.copy());
        if (past.size() > 16) past.removeFirst();
    }

    // ---- the street

    int feed(int letter) {
        if (out(letter, 0, 255)) return OUTSIDE;
        if (text.length() == 240) return FULL;
        text.append((char) letter);
        return text.length();
    }

    /** A token's sort: 'n' a number, '$' the end, else the letter itself. */
    private static final class Token {
        final char sort;
        final int at;
        final String figures;

        Token(char sort, int at, String figures) {
            this.sort = sort; this.at = at; this.figures = figures;
        }
    }

    private static List<Token> tokens(String s) {
        List<Token> tokens = new ArrayList<>();
        int i = 0;
        while (i < s.length()) {
            if (s.charAt(i) == ' ') { i++; continue; }
            int end = i;
            while (end < s.length() && "0123456789".indexOf(s.charAt(end)) >= 0) end++;
            if (end > i) {
                tokens.add(new Token('n', i, s.substring(i, end)));
                i = end;
            } else {
                char c = s.charAt(i);
                tokens.add(new Token(c == 'n' || c == '$' ? '?' : c, i, ""));
                i++;
            }
        }
        tokens.add(new Token('$', s.length(), ""));
        return tokens;
    }

    private static final Map<Character, int[][]> BOUNDS = new HashMap<>();
    static {
        BOUNDS.put('e', new int[][] {{0, 9}, {0, 9}});
        BOUNDS.put('g', new int[][] {{0, 3}, {0, 9}, {1, 32}});
        BOUNDS.put('f', new int[][] {{0, 3}, {0, 9}, {0, 9}, {0, 255}, {0, 999}});
    }

    private int faulty(int number, int at) {
        faultAt = at;
        return -10 - number;
    }

    int street() {
        List<Token> tokens = tokens(text.toString());
        text.setLength(0);
        faultAt = NONE;
        State next = new State();
        int t = 0;
        while (tokens.get(t).sort != '$') {
            Token word = tokens.get(t++);
            if ("egf".indexOf(word.sort) < 0) return faulty(1, word.at);
            if (!next.there && word.sort != 'e') return faulty(1, word.at);
            if (next.there && word.sort == 'e') return faulty(3, word.at);
            if (word.sort == 'g' && next.gates.size() == 4) return faulty(3, word.at);
            if (word.sort == 'f' && next.fobs.size() == 5) return faulty(3, word.at);
            List<Integer> numbers = new ArrayList<>();
            for (int[] bounds : BOUNDS.get(word.sort)) {
                Token number = tokens.get(t++);
                if (number.sort != 'n') return faulty(1, number.at);
                if (number.figures.length() > 3) return faulty(2, number.at);
                int value = Integer.parseInt(number.figures);
                if (out(value, bounds[0], bounds[1])) return faulty(2, number.at);
                numbers.add(value);
            }
            Token end = tokens.get(t++);
            if (end.sort != ';') return faulty(1, end.at);
            enter(next, word.sort, numbers);
        }
        for (Gate g : next.gates) for (Fob f : next.fobs) g.last.add(f.count);
        now = next;
        past.clear();
        images[0] = null;
        images[1] = null;
        seen.clear();
        book.clear();
        return now.fobs.size();
    }

    private static void enter(State s, char word, List<Integer> n) {
        if (word == 'e') {
            s.there = true;
            s.earPlace = n.get(0);
            s.earRange = n.get(1);
        } else if (word == 'g') {
            Gate g = new Gate();
            g.kind = n.get(0); g.place = n.get(1); g.window = n.get(2);
            s.gates.add(g);
        } else {
            Fob f = new Fob();
            f.kind = n.get(0); f.place = n.get(1); f.range = n.get(2); f.secret = n.get(3); f.count = n.get(4);
            s.fobs.add(f);
        }
    }

    int fault() { return faultAt; }

    private int noiseSet() {
        int set = 0;
        for (int g = 0; g < now.gates.size(); g++) if (now.gates.get(g).noise) set += 1 << g;
        return set;
    }

    int told(int what) {
        if (out(what, 0, 12)) return OUTSIDE;
        int[] all = {
            now.there ? 1 : 0, now.gates.size(), now.fobs.size(), text.length(), now.hours, now.earPlace, now.earRange,
            now.kept.size(), noiseSet(), now.gates.stream().mapToInt(g -> g.openings).sum(), seen.size(), book.size(), past.size()};
        return all[what];
    }

    int fob(int f, int what) {
        if (noFob(f)) return UNKNOWN;
        if (out(what, 0, 6)) return OUTSIDE;
        Fob fob = now.fobs.get(f);
        if (what == 6) {
            int most = IntStream.range(0, 10).map(x -> Integer.bitCount(now.copy().pressAt(f, x))).max().getAsInt();
            return IntStream.range(0, 10).filter(x -> Integer.bitCount(now.copy().pressAt(f, x)) == most).findFirst().getAsInt();
        }
        return new int[] {fob.kind, fob.place, fob.range, fob.secret, fob.count, fob.battery}[what];
    }

    int gate(int g, int what) {
        if (noGate(g)) return UNKNOWN;
        if (out(what, 0, 6)) return OUTSIDE;
        Gate gate = now.gates.get(g);
        if (what == 6) {
            return IntStream.range(0, now.kept.size()).filter(i -> now.copy().hear(g, now.kept.get(i))).map(i -> 1 << i).sum();
        }
        return new int[] {gate.kind, gate.place, gate.window, gate.openings, gate.waitsFob, gate.waitsCount}[what];
    }

    int last(int g, int f) {
        return noGate(g) || noFob(f) ? UNKNOWN : now.gates.get(g).last.get(f);
    }

    int kept(int i) {
        return out(i, 0, now.kept.size() - 1) ? NONE : now.kept.get(i);
    }

    int code(int s, int c) {
        return out(s, 0, 255) || out(c, 0, 9999) ? OUTSIDE : codeBy(s, c);
    }

    // ---- what is done

    int press(int f) {
        if (noFob(f)) return UNKNOWN;
        if (now.fobs.get(f).battery == 0) return NOT;
        remember();
        return now.pressAt(f, now.fobs.get(f).place);
    }

    int step(int f, int x) {
        if (noFob(f)) return UNKNOWN;
        if (out(x, 0, 9)) return OUTSIDE;
        int was = now.fobs.get(f).place;
        if (was == x) return NOT;
        remember();
        now.fobs.get(f).place = x;
        return was;
    }

    int earTo(int x) {
        if (out(x, 0, 9)) return OUTSIDE;
        if (!now.there) return NOT;
        int was = now.earPlace;
        if (was == x) return NOT;
        remember();
        now.earPlace = x;
        return was;
    }

    int noise(int g, boolean is) {
        if (noGate(g)) return UNKNOWN;
        if (now.gates.get(g).noise == is) return NOT;
        remember();
        now.gates.get(g).noise = is;
        return noiseSet();
    }

    int teach(int g, int f) {
        if (noGate(g) || noFob(f)) return UNKNOWN;
        remember();
        now.gates.get(g).last.set(f, now.fobs.get(f).count);
        return now.fobs.get(f).count;
    }

    int again(int i) {
        if (out(i, 0, now.kept.size() - 1)) return UNKNOWN;
        remember();
        return now.send(now.kept.get(i), now.earPlace, now.earRange);
    }

    int fill(int f) {
        if (noFob(f)) return UNKNOWN;
        remember();
        int was = now.fobs.get(f).battery;
        now.fobs.get(f).battery = 60;
        return was;
    }

    private int draw(int n) {
        seed = (seed * 1103515245L + 12345L) % 2147483648L;
        return (int) (seed / 65536 % n);
    }

    int drift(int n) {
        if (out(n, 1, 60)) return OUTSIDE;
        if (!now.there) return NOT;
        if (now.hours > 9000) return FULL;
        remember();
        for (int i = 0; i < n; i++) {
            now.hours++;
            if (now.fobs.isEmpty()) continue;
            int what = draw(5);
            int f = draw(now.fobs.size());
            switch (what) {
                case 0: case 1: now.pressAt(f, now.fobs.get(f).place); break;
                case 2: now.fobs.get(f).place = draw(10); break;
                case 3:
                    if (!now.gates.isEmpty()) {
                        Gate g = now.gates.get(draw(now.gates.size()));
                        g.noise = !g.noise;
                    }
                    break;
                default:
                    if (!now.kept.isEmpty()) {
                        now.send(now.kept.get(draw(now.kept.size())), now.earPlace, now.earRange);
                    }
            }
        }
        return now.hours;
    }

    int undo() {
        if (past.isEmpty()) return NOT;
        now = past.removeLast();
        return past.size();
    }

    // ---- tried

    int wouldOpen(int f, int x) {
        if (noFob(f)) return UNKNOWN;
        if (out(x, -1, 9)) return OUTSIDE;
        return now.copy().pressAt(f, x == NONE ? now.fobs.get(f).place : x);
    }

    int ahead(int g, int f) {
        if (noGate(g) || noFob(f)) return UNKNOWN;
        int more = now.fobs.get(f).count - now.gates.get(g).last.get(f);
        return more < 0 ? more + 10000 : more;
    }

    int locked(int g, int f) {
        if (noGate(g) || noFob(f)) return UNKNOWN;
        for (int k = 0; k <= 60; k++) {
            State s = now.copy();
            for (int i = 0; i < k; i++) s.codesOfPress(f);
            if (!s.pressBeside(g, f)) return k;
        }
        return NONE;
    }

    int takes(int g, int f) {
        if (noGate(g) || noFob(f)) return UNKNOWN;
        State s = now.copy();
        for (int k = 1; k <= 10; k++) if (s.pressBeside(g, f)) return k;
        return NONE;
    }

    private List<Integer> bestRow() {
        int wanted = 0;
        for (int g = 0; g < now.gates.size(); g++) {
            Gate gate = now.gates.get(g);
            if (!gate.noise && Math.abs(gate.place - now.earPlace) <= now.earRange) wanted |= 1 << g;
        }
        List<List<Integer>> rows = new ArrayList<>();
        rows.add(List.of());
        for (int length = 0; length <= 3; length++) {
            for (List<Integer> row : rows) {
                State s = now.copy();
                int opened = 0;
                for (int i : row) opened |= s.send(s.kept.get(i), s.earPlace, s.earRange);
                if ((opened & wanted) == wanted) return row;
            }
            List<List<Integer>> longer = new ArrayList<>();
            for (List<Integer> row : rows) {
                for (int i = 0; i < now.kept.size(); i++) {
                    List<Integer> more = new ArrayList<>(row);
                    more.add(i);
                    longer.add(more);
                }
            }
            rows = longer;
        }
        return null;
    }

    int row(int k) {
        List<Integer> row = bestRow();
        if (k == NONE) return row == null ? NONE : row.size();
        return row == null || out(k, 0, row.size() - 1) ? NONE : row.get(k);
    }

    int who(int code) {
        if (out(code, 0, 508)) return OUTSIDE;
        int set = 0;
        for (int f = 0; f < now.fobs.size(); f++) {
            Fob fob = now.fobs.get(f);
            IntStream next = fob.kind == 3 ? IntStream.of(0) : IntStream.rangeClosed(1, 40);
            if (next.anyMatch(k -> codeBy(fob.secret, (fob.count + k) % 10000) == code)) set |= 1 << f;
        }
        return set;
    }

    int same(int f, int h) {
        if (noFob(f) || noFob(h) || f == h) return UNKNOWN;
        Fob a = now.fobs.get(f), b = now.fobs.get(h);
        for (int k = 1; k <= 200; k++) {
            if (codeBy(a.secret, (a.count + k) % 10000) == codeBy(b.secret, (b.count + k) % 10000)) return k;
        }
        return NONE;
    }

    int quiet(int n, int q) {
        if (out(n, 0, 60) || out(q, 0, 100)) return OUTSIDE;
        long odds = 1000000000L;
        while (n-- > 0) odds = odds * q / 100;
        return (int) odds;
    }

    // ---- what is seen

    int see(int count, int code) {
        if (out(count, 0, 999) || out(code, 0, 508)) return OUTSIDE;
        if (seen.size() == 6) return FULL;
        seen.add(new int[] {count, code});
        return seen.size();
    }

    private TreeSet<Integer> fitting() {
        return IntStream.range(0, 256).filter(s -> seen.stream().allMatch(c -> codeBy(s, c[0]) == c[1]))
            .boxed().collect(Collectors.toCollection(TreeSet::new));
    }

    int secrets(int what) {
        if (out(what, 0, 2)) return OUTSIDE;
        TreeSet<Integer> fits = fitting();
        if (what == 0) return fits.size();
        if (fits.isEmpty()) return NONE;
        return what == 1 ? fits.first() : fits.last();
    }

    int ask() {
        TreeSet<Integer> fits = fitting();
        int best = NONE;
        long least = Long.MAX_VALUE;
        for (int count = 0; count <= 60; count++) {
            int c = count;
            long part = fits.stream().collect(Collectors.groupingBy(s -> codeBy(s, c), Collectors.counting()))
                .values().stream().mapToLong(v -> v).max().orElse(0);
            if (part < least && part < fits.size()) {
                least = part;
                best = count;
            }
        }
        return best;
    }

    int write(int g, int openings) {
        if (noGate(g)) return UNKNOWN;
        if (out(openings, 0, 9999)) return OUTSIDE;
        if (book.size() == 15) return FULL;
        book.add(new int[] {g, openings});
        return book.size();
    }

    int tear() {
        int both = seen.size() + book.size();
        seen.clear();
        book.clear();
        return both;
    }

    int judge() {
        for (int i = 0; i < book.size(); i++) {
            if (now.gates.get(book.get(i)[0]).openings != book.get(i)[1]) return i;
        }
        return NONE;
    }

    // ---- draws, images

    int seed(int v) {
        if (v < 0) return OUTSIDE;
        int was = (int) seed;
        seed = v;
        return was;
    }

    int keep(int i) {
        if (out(i, 0, 1)) return UNKNOWN;
        images[i] = now.copy();
        imageSeeds[i] = seed;
        past.clear();
        return 1;
    }

    int goBack(int i) {
        if (out(i, 0, 1)) return UNKNOWN;
        if (images[i] == null) return NOT;
        now = images[i].copy();
        seed = imageSeeds[i];
        past.clear();
        return 1;
    }
}
