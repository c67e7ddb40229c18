/**
 * Rolling codes: fobs and gates of kinds along a street, and an ear that keeps codes.
 * The words and the numbered promises are those of DOC.md.
 */
public final class RollingCodes {
    public static final int NONE = -1, UNKNOWN = -1000000001, OUTSIDE = -1000000002, NOT = -1000000003, FULL = -1000000004;

    private static final int LETTERS = 240;
    private static final int GATES = 4;
    private static final int FOBS = 5;
    private static final int KEPT = 8;
    private static final int PLACES = 10;
    private static final int COUNTS = 10000;
    private static final int CODES = 509;
    private static final int SECRETS = 256;
    private static final int FULL_BATTERY = 60;
    private static final int TIRED_BELOW = 20;
    private static final int WARY_ABOVE = 4;
    private static final int MOST_OPENINGS = 9999;
    private static final int LAST_FULL_HOUR = 9000;
    private static final int MOST_HOURS = 60;
    private static final int MOST_UNSEEN_PRESSES = 60;
    private static final int MOST_TAKEN_PRESSES = 10;
    private static final int WHO_COUNTS = 40;
    private static final int SAME_COUNTS = 200;
    private static final int MOST_NIGHTS = 60;
    private static final int HUNDRED = 100;
    private static final int ROW = 3;
    private static final int PAST = 16;
    private static final int IMAGES = 2;
    private static final int SEEN = 6;
    private static final int SEEN_COUNTS = 1000;
    private static final int LAST_ASKED = 60;
    private static final int BOOK = 15;
    private static final long BILLION = 1000000000L;

    private static final int EAGER = 1, TIRED = 2, OLD = 3;
    private static final int STRICT = 1, LAX = 2, WARY = 3;

    private final Text text = new Text();
    private final Reader reader = new Reader();
    private final Plan plan = new Plan();
    private final Scene now = new Scene(plan);
    private final Scene trial = new Scene(plan);
    private final Past past = new Past(plan);
    private final Images images = new Images(plan);
    private final RowSearch search = new RowSearch(plan);
    private final Seen seen = new Seen();
    private final Book book = new Book();
    private final Draws draws = new Draws();
    private int faultAt = NONE;

    public RollingCodes() {
        now.begin();
        seen.clear();
    }

    // ---- the street

    public int feed(int letter) {
        if (letter < 0 || letter > 255) {
            return OUTSIDE;
        }
        return text.add(letter) ? text.length : FULL;
    }

    public int street() {
        reader.read(text);
        text.clear();
        faultAt = reader.faultAt;
        if (reader.fault != 0) {
            return -10 - reader.fault;
        }
        plan.copyFrom(reader.draft);
        now.begin();
        past.forget();
        images.forget();
        seen.clear();
        book.clear();
        return plan.fobs;
    }

    public int fault() {
        return faultAt;
    }

    public int told(int what) {
        switch (what) {
            case 0: return plan.there ? 1 : 0;
            case 1: return plan.gates;
            case 2: return plan.fobs;
            case 3: return text.length;
            case 4: return now.hours;
            case 5: return now.earPlace;
            case 6: return plan.earRange;
            case 7: return now.keptSize;
            case 8: return now.noisyGates;
            case 9: return now.allOpenings();
            case 10: return seen.size;
            case 11: return book.size;
            case 12: return past.size;
            default: return OUTSIDE;
        }
    }

    public int fob(int f, int what) {
        if (!plan.isFob(f)) {
            return UNKNOWN;
        }
        switch (what) {
            case 0: return plan.fobKind[f];
            case 1: return now.places[f];
            case 2: return plan.fobRange[f];
            case 3: return plan.fobSecret[f];
            case 4: return now.counts[f];
            case 5: return now.batteries[f];
            case 6: return bestPlace(f);
            default: return OUTSIDE;
        }
    }

    public int gate(int g, int what) {
        if (!plan.isGate(g)) {
            return UNKNOWN;
        }
        switch (what) {
            case 0: return plan.gateKind[g];
            case 1: return plan.gatePlace[g];
            case 2: return plan.gateWindow[g];
            case 3: return now.openings[g];
            case 4: return now.waitsFob[g];
            case 5: return now.waitsCount[g];
            case 6: return usefulAt(g);
            default: return OUTSIDE;
        }
    }

    public int last(int g, int f) {
        return areKnown(g, f) ? now.lastOf(g, f) : UNKNOWN;
    }

    public int kept(int i) {
        return now.isKept(i) ? now.keptCodes[i] : NONE;
    }

    public int code(int s, int c) {
        if (s < 0 || s >= SECRETS || c < 0 || c >= COUNTS) {
            return OUTSIDE;
        }
        return codeOf(s, c);
    }

    // ---- what is done

    public int press(int f) {
        if (!plan.isFob(f)) {
            return UNKNOWN;
        }
        if (now.batteries[f] <= 0) {
            return NOT;
        }
        past.remember(now);
        return now.pressedFrom(f, now.places[f]);
    }

    public int step(int f, int x) {
        if (!plan.isFob(f)) {
            return UNKNOWN;
        }
        if (!isPlace(x)) {
            return OUTSIDE;
        }
        int was = now.places[f];
        if (was == x) {
            return NOT;
        }
        past.remember(now);
        now.places[f] = x;
        return was;
    }

    public int earTo(int x) {
        if (!isPlace(x)) {
            return OUTSIDE;
        }
        int was = now.earPlace;
        if (!plan.there || was == x) {
            return NOT;
        }
        past.remember(now);
        now.earPlace = x;
        return was;
    }

    public int noise(int g, boolean is) {
        if (!plan.isGate(g)) {
            return UNKNOWN;
        }
        if (now.isNoisy(g) == is) {
            return NOT;
        }
        past.remember(now);
        now.turnNoise(g);
        return now.noisyGates;
    }

    public int teach(int g, int f) {
        if (!areKnown(g, f)) {
            return UNKNOWN;
        }
        past.remember(now);
        now.taught(g, f);
        return now.lastOf(g, f);
    }

    public int again(int i) {
        if (!now.isKept(i)) {
            return UNKNOWN;
        }
        past.remember(now);
        return now.sentAgain(i);
    }

    public int fill(int f) {
        if (!plan.isFob(f)) {
            return UNKNOWN;
        }
        past.remember(now);
        int was = now.batteries[f];
        now.batteries[f] = FULL_BATTERY;
        return was;
    }

    public int drift(int n) {
        if (n < 1 || n > MOST_HOURS) {
            return OUTSIDE;
        }
        if (!plan.there) {
            return NOT;
        }
        if (now.hours > LAST_FULL_HOUR) {
            return FULL;
        }
        past.remember(now);
        for (int i = 0; i < n; i++) {
            passHour();
        }
        return now.hours;
    }

    public int undo() {
        if (past.size == 0) {
            return NOT;
        }
        past.takeBack(now);
        return past.size;
    }

    // ---- tried

    public int wouldOpen(int f, int x) {
        if (!plan.isFob(f)) {
            return UNKNOWN;
        }
        if (x != NONE && !isPlace(x)) {
            return OUTSIDE;
        }
        return opensFrom(f, x == NONE ? now.places[f] : x);
    }

    public int ahead(int g, int f) {
        if (!areKnown(g, f)) {
            return UNKNOWN;
        }
        return Math.floorMod(now.counts[f] - now.lastOf(g, f), COUNTS);
    }

    public int locked(int g, int f) {
        if (!areKnown(g, f)) {
            return UNKNOWN;
        }
        for (int times = 0; times <= MOST_UNSEEN_PRESSES; times++) {
            trial.copyFrom(now);
            trial.pressedUnheard(f, times);
            if (!trial.opensBeside(g, f)) {
                return times;
            }
        }
        return NONE;
    }

    public int takes(int g, int f) {
        if (!areKnown(g, f)) {
            return UNKNOWN;
        }
        trial.copyFrom(now);
        for (int press = 1; press <= MOST_TAKEN_PRESSES; press++) {
            if (trial.opensBeside(g, f)) {
                return press;
            }
        }
        return NONE;
    }

    public int row(int k) {
        int length = search.find(now);
        if (k == NONE) {
            return length;
        }
        return k >= 0 && k < length ? search.entries[k] : NONE;
    }

    public int who(int code) {
        if (!isCode(code)) {
            return OUTSIDE;
        }
        int set = 0;
        for (int f = 0; f < plan.fobs; f++) {
            if (couldSend(f, code)) {
                set |= 1 << f;
            }
        }
        return set;
    }

    public int same(int f, int h) {
        if (!plan.isFob(f) || !plan.isFob(h) || f == h) {
            return UNKNOWN;
        }
        for (int k = 1; k <= SAME_COUNTS; k++) {
            if (now.codeAhead(f, k) == now.codeAhead(h, k)) {
                return k;
            }
        }
        return NONE;
    }

    public int quiet(int n, int q) {
        if (n < 0 || n > MOST_NIGHTS || q < 0 || q > HUNDRED) {
            return OUTSIDE;
        }
        long odds = BILLION;
        for (int night = 0; night < n; night++) {
            odds = odds * q / HUNDRED;
        }
        return (int) odds;
    }

    // ---- what is seen

    public int see(int count, int code) {
        if (count < 0 || count >= SEEN_COUNTS || !isCode(code)) {
            return OUTSIDE;
        }
        return seen.add(count, code) ? seen.size : FULL;
    }

    public int secrets(int what) {
        switch (what) {
            case 0: return seen.fitting();
            case 1: return seen.leastFitting();
            case 2: return seen.greatestFitting();
            default: return OUTSIDE;
        }
    }

    public int ask() {
        return seen.bestQuestion();
    }

    public int write(int g, int openings) {
        if (!plan.isGate(g)) {
            return UNKNOWN;
        }
        if (openings < 0 || openings > MOST_OPENINGS) {
            return OUTSIDE;
        }
        return book.add(g, openings) ? book.size : FULL;
    }

    public int tear() {
        int both = seen.size + book.size;
        seen.clear();
        book.clear();
        return both;
    }

    public int judge() {
        return book.firstFalse(now);
    }

    // ---- draws, images

    public int seed(int v) {
        if (v < 0) {
            return OUTSIDE;
        }
        int was = draws.state;
        draws.state = v;
        return was;
    }

    public int keep(int i) {
        if (!images.isImage(i)) {
            return UNKNOWN;
        }
        images.take(i, now, draws);
        past.forget();
        return 1;
    }

    public int goBack(int i) {
        if (!images.isImage(i)) {
            return UNKNOWN;
        }
        if (!images.isTaken(i)) {
            return NOT;
        }
        images.bringBack(i, now, draws);
        past.forget();
        return 1;
    }

    // ---- what the face is made of

    private static boolean isPlace(int x) {
        return x >= 0 && x < PLACES;
    }

    private static boolean isCode(int code) {
        return code >= 0 && code < CODES;
    }

    private static int codeOf(int secret, int count) {
        return (secret * 61 + count * 13 + secret * count) % CODES;
    }

    private boolean areKnown(int g, int f) {
        return plan.isGate(g) && plan.isFob(f);
    }

    private int opensFrom(int f, int x) {
        trial.copyFrom(now);
        return trial.pressedFrom(f, x);
    }

    private int bestPlace(int f) {
        int best = 0;
        int most = 0;
        for (int x = 0; x < PLACES; x++) {
            int opened = Integer.bitCount(opensFrom(f, x));
            if (opened > most) {
                most = opened;
                best = x;
            }
        }
        return best;
    }

    private int usefulAt(int g) {
        int set = 0;
        for (int i = 0; i < now.keptSize; i++) {
            trial.copyFrom(now);
            if (trial.hears(g, now.keptCodes[i])) {
                set |= 1 << i;
            }
        }
        return set;
    }

    private boolean couldSend(int f, int code) {
        if (plan.fobKind[f] == OLD) {
            return now.codeAhead(f, 0) == code;
        }
        for (int k = 1; k <= WHO_COUNTS; k++) {
            if (now.codeAhead(f, k) == code) {
                return true;
            }
        }
        return false;
    }

    private void passHour() {
        now.hours++;
        if (plan.fobs == 0) {
            return;
        }
        int what = draws.next(5);
        int f = draws.next(plan.fobs);
        if (what <= 1) {
            now.pressedFrom(f, now.places[f]);
        } else if (what == 2) {
            now.places[f] = draws.next(PLACES);
        } else if (what == 3 && plan.gates > 0) {
            now.turnNoise(draws.next(plan.gates));
        } else if (what == 4 && now.keptSize > 0) {
            now.sentAgain(draws.next(now.keptSize));
        }
    }

    /** THE TEXT, as far as it has been fed. */
    private static final class Text {
        private final int[] letters = new int[LETTERS];
        private int length;

        private boolean add(int letter) {
            if (length >= LETTERS) {
                return false;
            }
            letters[length] = letter;
            length++;
            return true;
        }

        private void clear() {
            length = 0;
        }

        /** NONE behind the end, so that the end cannot be taken for a letter. */
        private int letterAt(int i) {
            return i >= 0 && i < length ? letters[i] : NONE;
        }
    }

    /** What a text tells of a street; it stays as it is until the next street. */
    private static final class Plan {
        private boolean there;
        private int earPlace;
        private int earRange;
        private int gates;
        private int fobs;
        private final int[] gateKind = new int[GATES];
        private final int[] gatePlace = new int[GATES];
        private final int[] gateWindow = new int[GATES];
        private final int[] fobKind = new int[FOBS];
        private final int[] fobPlace = new int[FOBS];
        private final int[] fobRange = new int[FOBS];
        private final int[] fobSecret = new int[FOBS];
        private final int[] fobCount = new int[FOBS];

        private void clear() {
            there = false;
            earPlace = 0;
            earRange = 0;
            gates = 0;
            fobs = 0;
        }

        private void copyFrom(Plan other) {
            there = other.there;
            earPlace = other.earPlace;
            earRange = other.earRange;
            gates = other.gates;
            fobs = other.fobs;
            System.arraycopy(other.gateKind, 0, gateKind, 0, GATES);
            System.arraycopy(other.gatePlace, 0, gatePlace, 0, GATES);
            System.arraycopy(other.gateWindow, 0, gateWindow, 0, GATES);
            System.arraycopy(other.fobKind, 0, fobKind, 0, FOBS);
            System.arraycopy(other.fobPlace, 0, fobPlace, 0, FOBS);
            System.arraycopy(other.fobRange, 0, fobRange, 0, FOBS);
            System.arraycopy(other.fobSecret, 0, fobSecret, 0, FOBS);
            System.arraycopy(other.fobCount, 0, fobCount, 0, FOBS);
        }

        private boolean isGate(int g) {
            return g >= 0 && g < gates;
        }

        private boolean isFob(int f) {
            return f >= 0 && f < fobs;
        }

        /** How many codes one press sends. */
        private int sendings(int f) {
            return fobKind[f] == EAGER ? 2 : 1;
        }

        /** How far the count goes on by one code that is sent. */
        private int stride(int f) {
            return fobKind[f] == OLD ? 0 : 1;
        }

        private int leastAhead(int g) {
            return gateKind[g] == LAX ? 0 : 1;
        }

        private int mostAhead(int g) {
            return gateKind[g] == STRICT ? 1 : gateWindow[g];
        }

        private void addEar(int[] numbers) {
            there = true;
            earPlace = numbers[0];
            earRange = numbers[1];
        }

        private void addGate(int[] numbers) {
            if (gates >= GATES) {
                return;
            }
            gateKind[gates] = numbers[0];
            gatePlace[gates] = numbers[1];
            gateWindow[gates] = numbers[2];
            gates++;
        }

        private void addFob(int[] numbers) {
            if (fobs >= FOBS) {
                return;
            }
            fobKind[fobs] = numbers[0];
            fobPlace[fobs] = numbers[1];
            fobRange[fobs] = numbers[2];
            fobSecret[fobs] = numbers[3];
            fobCount[fobs] = numbers[4];
            fobs++;
        }
    }

    /** Reads a text into a draft, so that a fault leaves the street as it was. */
    private static final class Reader {
        private static final int MISPLACED = 1, WRONG_NUMBER = 2, ONE_TOO_MANY = 3;
        private static final int MOST_FIGURES = 3;
        private static final int NUMBERS = 5;
        private static final int[] EAR_MOST = {9, 9};
        private static final int[] EAR_LEAST = {0, 0};
        private static final int[] GATE_MOST = {3, 9, 32};
        private static final int[] GATE_LEAST = {0, 0, 1};
        private static final int[] FOB_MOST = {3, 9, 9, 255, 999};
        private static final int[] FOB_LEAST = {0, 0, 0, 0, 0};

        private final Plan draft = new Plan();
        private final int[] numbers = new int[NUMBERS];
        private int at;
        private int fault;
        private int faultAt;

        private void read(Text text) {
            draft.clear();
            at = 0;
            fault = 0;
            faultAt = NONE;
            skipBlanks(text);
            for (int clause = 0; clause < LETTERS && at < text.length && fault == 0; clause++) {
                readClause(text);
                skipBlanks(text);
            }
        }

        private void readClause(Text text) {
            int word = text.letterAt(at);
            int wrong = faultOfWord(word);
            if (wrong != 0) {
                fail(wrong, at);
                return;
            }
            at++;
            if (word == 'e') {
                readNumbers(text, EAR_LEAST, EAR_MOST);
            } else if (word == 'g') {
                readNumbers(text, GATE_LEAST, GATE_MOST);
            } else {
                readNumbers(text, FOB_LEAST, FOB_MOST);
            }
            readEnd(text);
            if (fault == 0) {
                enter(word);
            }
        }

        private int faultOfWord(int word) {
            if (word != 'e' && word != 'g' && word != 'f') {
                return MISPLACED;
            }
            if (!draft.there) {
                return word == 'e' ? 0 : MISPLACED;
            }
            boolean tooMany = word == 'e'
                    || word == 'g' && draft.gates >= GATES
                    || word == 'f' && draft.fobs >= FOBS;
            return tooMany ? ONE_TOO_MANY : 0;
        }

        private void readNumbers(Text text, int[] least, int[] most) {
            for (int i = 0; i < NUMBERS && i < least.length && i < most.length && fault == 0; i++) {
                numbers[i] = readNumber(text, least[i], most[i]);
            }
        }

        private int readNumber(Text text, int least, int most) {
            skipBlanks(text);
            int first = at;
            int value = 0;
            while (at < text.length && isFigure(text.letterAt(at))) {
                value = value * 10 + text.letterAt(at) - '0';
                at++;
            }
            int figures = at - first;
            if (figures == 0) {
                fail(MISPLACED, first);
            } else if (figures > MOST_FIGURES || value < least || value > most) {
                fail(WRONG_NUMBER, first);
            }
            return value;
        }

        private void readEnd(Text text) {
            if (fault != 0) {
                return;
            }
            skipBlanks(text);
            if (text.letterAt(at) == ';') {
                at++;
            } else {
                fail(MISPLACED, at);
            }
        }

        private void enter(int word) {
            if (word == 'e') {
                draft.addEar(numbers);
            } else if (word == 'g') {
                draft.addGate(numbers);
            } else {
                draft.addFob(numbers);
            }
        }

        private void skipBlanks(Text text) {
            while (at < text.length && text.letterAt(at) == ' ') {
                at++;
            }
        }

        private void fail(int number, int letter) {
            fault = number;
            faultAt = letter;
        }

        private static boolean isFigure(int letter) {
            return letter >= '0' && letter <= '9';
        }
    }

    /**
     * All that is done changes: section 2 of the document, and the hours.
     * Callers look whether there is such a fob, gate, kept entry first.
     */
    private static final class Scene {
        private final Plan plan;
        private int hours;
        private int earPlace;
        private int noisyGates;
        private int keptSize;
        private final int[] keptCodes = new int[KEPT];
        private final int[] places = new int[FOBS];
        private final int[] counts = new int[FOBS];
        private final int[] batteries = new int[FOBS];
        private final int[] openings = new int[GATES];
        private final int[] waitsFob = new int[GATES];
        private final int[] waitsCount = new int[GATES];
        private final int[] lastCounts = new int[GATES * FOBS];

        private Scene(Plan plan) {
            this.plan = plan;
        }

        private void begin() {
            hours = 0;
            earPlace = plan.earPlace;
            noisyGates = 0;
            keptSize = 0;
            for (int f = 0; f < FOBS; f++) {
                places[f] = plan.fobPlace[f];
                counts[f] = plan.fobCount[f];
                batteries[f] = FULL_BATTERY;
            }
            for (int g = 0; g < GATES; g++) {
                openings[g] = 0;
                waitFor(g, NONE, NONE);
                for (int f = 0; f < FOBS; f++) {
                    taught(g, f);
                }
            }
        }

        private void copyFrom(Scene other) {
            hours = other.hours;
            earPlace = other.earPlace;
            noisyGates = other.noisyGates;
            keptSize = other.keptSize;
            System.arraycopy(other.keptCodes, 0, keptCodes, 0, KEPT);
            System.arraycopy(other.places, 0, places, 0, FOBS);
            System.arraycopy(other.counts, 0, counts, 0, FOBS);
            System.arraycopy(other.batteries, 0, batteries, 0, FOBS);
            System.arraycopy(other.openings, 0, openings, 0, GATES);
            System.arraycopy(other.waitsFob, 0, waitsFob, 0, GATES);
            System.arraycopy(other.waitsCount, 0, waitsCount, 0, GATES);
            System.arraycopy(other.lastCounts, 0, lastCounts, 0, GATES * FOBS);
        }

        private int lastOf(int g, int f) {
            return lastCounts[g * FOBS + f];
        }

        private void taught(int g, int f) {
            lastCounts[g * FOBS + f] = counts[f];
        }

        private boolean isKept(int i) {
            return i >= 0 && i < keptSize;
        }

        private boolean isNoisy(int g) {
            return (noisyGates >> g & 1) == 1;
        }

        private void turnNoise(int g) {
            noisyGates ^= 1 << g;
        }

        private int allOpenings() {
            int sum = 0;
            for (int g = 0; g < plan.gates; g++) {
                sum += openings[g];
            }
            return sum;
        }

        /** The code of the count that is k ahead of a fob's count. */
        private int codeAhead(int f, int k) {
            return codeOf(plan.fobSecret[f], (counts[f] + k) % COUNTS);
        }

        /** PRESSED; the set of gates that open. With an empty battery nothing happens. */
        private int pressedFrom(int f, int from) {
            if (batteries[f] <= 0) {
                return 0;
            }
            batteries[f]--;
            int range = rangeNow(f);
            int opened = 0;
            for (int i = 0; i < plan.sendings(f); i++) {
                int code = nextCode(f);
                opened |= heardByGates(code, from, range);
                heardByEar(code, from, range);
            }
            return opened;
        }

        /** PRESSED in noise everywhere, with a full battery each time. */
        private void pressedUnheard(int f, int times) {
            counts[f] = (counts[f] + times * plan.sendings(f) * plan.stride(f)) % COUNTS;
        }

        /** PRESSED next to a gate, with a full battery, without noise, for this gate alone. */
        private boolean opensBeside(int g, int f) {
            boolean opened = false;
            for (int i = 0; i < plan.sendings(f); i++) {
                opened |= hears(g, nextCode(f));
            }
            return opened;
        }

        private int sentAgain(int i) {
            return heardByGates(keptCodes[i], earPlace, plan.earRange);
        }

        /** The gates that the ear can reach from where it is, but those in noise. */
        private int gatesInReach() {
            int set = 0;
            for (int g = 0; g < plan.gates; g++) {
                if (isHeardAt(g, earPlace, plan.earRange)) {
                    set |= 1 << g;
                }
            }
            return set;
        }

        private int rangeNow(int f) {
            boolean isWeak = plan.fobKind[f] == TIRED && batteries[f] < TIRED_BELOW;
            return isWeak ? plan.fobRange[f] / 2 : plan.fobRange[f];
        }

        private int nextCode(int f) {
            counts[f] = (counts[f] + plan.stride(f)) % COUNTS;
            return codeAhead(f, 0);
        }

        private boolean isHeardAt(int g, int from, int range) {
            return !isNoisy(g) && Math.abs(plan.gatePlace[g] - from) <= range;
        }

        private int heardByGates(int code, int from, int range) {
            int opened = 0;
            for (int g = 0; g < plan.gates; g++) {
                if (isHeardAt(g, from, range) && hears(g, code)) {
                    opened |= 1 << g;
                }
            }
            return opened;
        }

        private void heardByEar(int code, int from, int range) {
            if (Math.abs(earPlace - from) > Math.max(range, plan.earRange)) {
                return;
            }
            System.arraycopy(keptCodes, 0, keptCodes, 1, KEPT - 1);
            keptCodes[0] = code;
            keptSize = Math.min(keptSize + 1, KEPT);
        }

        /** A gate hears a code: whether it opens. */
        private boolean hears(int g, int code) {
            int awaited = waitsFob[g];
            if (plan.isFob(awaited) && codeOf(plan.fobSecret[awaited], waitsCount[g]) == code) {
                open(g, awaited, waitsCount[g]);
                return true;
            }
            for (int f = 0; f < plan.fobs; f++) {
                int ahead = firstAhead(g, f, code);
                if (ahead == NONE) {
                    continue;
                }
                int count = (lastOf(g, f) + ahead) % COUNTS;
                if (plan.gateKind[g] == WARY && ahead > WARY_ABOVE) {
                    waitFor(g, f, (count + 1) % COUNTS);
                    return false;
                }
                open(g, f, count);
                return true;
            }
            return false;
        }

        private int firstAhead(int g, int f, int code) {
            int secret = plan.fobSecret[f];
            int last = lastOf(g, f);
            int most = plan.mostAhead(g);
            for (int ahead = plan.leastAhead(g); ahead <= most; ahead++) {
                if (codeOf(secret, (last + ahead) % COUNTS) == code) {
                    return ahead;
                }
            }
            return NONE;
        }

        private void open(int g, int f, int count) {
            lastCounts[g * FOBS + f] = count;
            openings[g] = Math.min(openings[g] + 1, MOST_OPENINGS);
            waitFor(g, NONE, NONE);
        }

        private void waitFor(int g, int f, int count) {
            waitsFob[g] = f;
            waitsCount[g] = count;
        }

        private boolean waitsAs(Scene other) {
            for (int g = 0; g < plan.gates; g++) {
                if (waitsFob[g] != other.waitsFob[g] || waitsCount[g] != other.waitsCount[g]) {
                    return false;
                }
            }
            return true;
        }
    }

    /** What can be undone: the scenes ahead of the latest calls, in a ring. */
    private static final class Past {
        private final Scene[] scenes = new Scene[PAST];
        private int next;
        private int size;

        private Past(Plan plan) {
            for (int i = 0; i < PAST; i++) {
                scenes[i] = new Scene(plan);
            }
        }

        private void remember(Scene scene) {
            scenes[next].copyFrom(scene);
            next = (next + 1) % PAST;
            size = Math.min(size + 1, PAST);
        }

        private void takeBack(Scene scene) {
            if (size == 0) {
                return;
            }
            next = (next + PAST - 1) % PAST;
            size--;
            scene.copyFrom(scenes[next]);
        }

        private void forget() {
            size = 0;
        }
    }

    private static final class Images {
        private final Scene[] scenes = new Scene[IMAGES];
        private final int[] seeds = new int[IMAGES];
        private final boolean[] taken = new boolean[IMAGES];

        private Images(Plan plan) {
            for (int i = 0; i < IMAGES; i++) {
                scenes[i] = new Scene(plan);
            }
        }

        private boolean isImage(int i) {
            return i >= 0 && i < IMAGES;
        }

        private boolean isTaken(int i) {
            return taken[i];
        }

        private void take(int i, Scene scene, Draws draws) {
            scenes[i].copyFrom(scene);
            seeds[i] = draws.state;
            taken[i] = true;
        }

        private void bringBack(int i, Scene scene, Draws draws) {
            scene.copyFrom(scenes[i]);
            draws.state = seeds[i];
        }

        private void forget() {
            for (int i = 0; i < IMAGES; i++) {
                taken[i] = false;
            }
        }
    }

    /** Looks for the first of the shortest rows of kept entries that open all in reach. */
    private static final class RowSearch {
        private final Scene[] scenes = new Scene[ROW + 1];
        private final int[] entries = new int[ROW];

        private RowSearch(Plan plan) {
            for (int i = 0; i <= ROW; i++) {
                scenes[i] = new Scene(plan);
            }
        }

        /** How many entries the row has, or NONE. */
        private int find(Scene start) {
            scenes[0].copyFrom(start);
            int wanted = start.gatesInReach();
            for (int length = 0; length <= ROW; length++) {
                if (canEnd(this, 0, length, wanted)) {
                    return length;
                }
            }
            return NONE;
        }

        /** Whether the row can go on from depth to its length so that the missing gates open. */
        private static boolean canEnd(RowSearch row, int depth, int length, int missing) {
            if (depth >= length || depth >= ROW) {
                return missing == 0;
            }
            Scene ahead = row.scenes[depth];
            Scene behind = row.scenes[depth + 1];
            for (int i = 0; i < ahead.keptSize; i++) {
                row.entries[depth] = i;
                behind.copyFrom(ahead);
                int still = missing & ~behind.sentAgain(i);
                // An entry that changes nothing stands in no shortest row.
                boolean isVain = still == missing && behind.waitsAs(ahead);
                if (!isVain && canEnd(row, depth + 1, length, still)) {
                    return true;
                }
            }
            return false;
        }
    }

    /** Which secrets fit the codes that were seen. */
    private static final class Seen {
        private final boolean[] fits = new boolean[SECRETS];
        private final int[] alike = new int[CODES];
        private int size;

        private boolean add(int count, int code) {
            if (size >= SEEN) {
                return false;
            }
            for (int secret = 0; secret < SECRETS; secret++) {
                fits[secret] &= codeOf(secret, count) == code;
            }
            size++;
            return true;
        }

        private void clear() {
            for (int secret = 0; secret < SECRETS; secret++) {
                fits[secret] = true;
            }
            size = 0;
        }

        private int fitting() {
            int sum = 0;
            for (int secret = 0; secret < SECRETS; secret++) {
                if (fits[secret]) {
                    sum++;
                }
            }
            return sum;
        }

        private int leastFitting() {
            for (int secret = 0; secret < SECRETS; secret++) {
                if (fits[secret]) {
                    return secret;
                }
            }
            return NONE;
        }

        private int greatestFitting() {
            for (int secret = SECRETS - 1; secret >= 0; secret--) {
                if (fits[secret]) {
                    return secret;
                }
            }
            return NONE;
        }

        /** It begins with all that fits as one part, so a count that parts nothing is never the best. */
        private int bestQuestion() {
            int best = NONE;
            int least = fitting();
            for (int count = 0; count <= LAST_ASKED && least > 1; count++) {
                int part = greatestPart(count);
                if (part < least) {
                    least = part;
                    best = count;
                }
            }
            return best;
        }

        private int greatestPart(int count) {
            for (int code = 0; code < CODES; code++) {
                alike[code] = 0;
            }
            int greatest = 0;
            for (int secret = 0; secret < SECRETS; secret++) {
                if (fits[secret]) {
                    int code = codeOf(secret, count);
                    alike[code]++;
                    greatest = Math.max(greatest, alike[code]);
                }
            }
            return greatest;
        }
    }

    private static final class Book {
        private final int[] gates = new int[BOOK];
        private final int[] openings = new int[BOOK];
        private int size;

        private boolean add(int g, int count) {
            if (size >= BOOK) {
                return false;
            }
            gates[size] = g;
            openings[size] = count;
            size++;
            return true;
        }

        private void clear() {
            size = 0;
        }

        private int firstFalse(Scene scene) {
            for (int i = 0; i < size; i++) {
                if (scene.openings[gates[i]] != openings[i]) {
                    return i;
                }
            }
            return NONE;
        }
    }

    private static final class Draws {
        private int state;

        private int next(int n) {
            if (n <= 0) {
                return 0;
            }
            state = (int) (state * 1103515245L + 12345L & 0x7fffffffL);
            return state / 65536 % n;
        }
    }
}
