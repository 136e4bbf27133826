/**
 * What counters tell: a machine with few counters and a program of lines and loops told in a text.
 * README.md says how to use it, ../shared/DOC.md what each call promises.
 */
public final class EventCounters {
    public static final int BAD = -1, STATE = -2, FULL = -3, NONE = -4;

    private static final long BAD_SCALED = -1000000000000L;
    private static final long NONE_SCALED = -1000000000004L;

    private static final int EVENTS = 8;
    private static final int SETS = 256;
    private static final int LINES = 16;
    private static final int STEPS = 6000;
    private static final int LONGEST_SLICE = 999;
    private static final int LONGEST_PERIOD = 9999;
    private static final int LONGEST_SKID = 9;
    private static final int MOST_TRIED = 200;
    private static final int MOST_TOLD = 9999;
    private static final int MOST_SHOWN = 999999;

    private final Tape tape = new Tape();
    private Program now = new Program();
    private Program draft = new Program();
    private final Reader reader = new Reader(tape, draft);
    private final Kept kept = new Kept();
    private final Bank bank = new Bank();
    private final Turns turns = new Turns();
    private final Samples taken = new Samples();
    private final Looks looks = new Looks();
    private final Runs runs = new Runs();
    private final Sheets sheets = new Sheets();
    private int latestFault = 0;

    public EventCounters() {
        bank.begin(2);
    }

    // ---- the program

    public int feed(long v) {
        return tape.addEight(v) ? tape.size : FULL;
    }

    public int end(int n) {
        if (n < 0 || n > tape.size) {
            return BAD;
        }
        int had = tape.size;
        tape.size = n;
        return had;
    }

    public int program() {
        reader.readInto(draft);
        latestFault = reader.fault;
        tape.size = 0;
        if (latestFault != 0) {
            return -10 - reader.faultPlace;
        }
        Program told = draft;
        draft = now;
        now = told;
        now.timeSteps();
        runs.size = 0;
        return now.lines;
    }

    public int fault() {
        return latestFault;
    }

    public int line(int l, int what) {
        if (!now.hasLine(l)) {
            return BAD;
        }
        if (isEvent(what - 10)) {
            return now.each[l][what - 10];
        }
        switch (what) {
            case 0:
                return now.ticks[l];
            case 1:
                return now.times[l];
            case 2:
                return now.inside[l];
            default:
                return BAD;
        }
    }

    public int step(int i) {
        return i >= 0 && i < now.steps ? now.lineOf[i] : BAD;
    }

    public int whole(int what) {
        if (what == 0) {
            return now.steps;
        }
        if (what == 1) {
            return now.allTicks();
        }
        return isEvent(what - 10) ? now.total(what - 10) : BAD;
    }

    public int ratio(int l, int e, int f, int what) {
        if (l != NONE && !now.hasLine(l) || !isEvent(e) || !isEvent(f) || !isEither(what)) {
            return BAD;
        }
        int above = l == NONE ? now.total(e) : now.each[l][e];
        int below = l == NONE ? now.total(f) : now.each[l][f];
        if (below < 1) {
            return NONE;
        }
        return (int) inLowestTerms(above, below, what == 0);
    }

    public int loop(int q, int what) {
        if (!now.hasLoop(q)) {
            return BAD;
        }
        switch (what) {
            case 0:
                return now.tells[q];
            case 1:
                return now.around[q];
            case 2:
                return now.linesIn(q);
            case 3:
                return now.comes[q];
            case 4:
                return now.stepsIn(q);
            default:
                return BAD;
        }
    }

    public int went(int q, int e, int total) {
        if (!now.hasLoop(q) || !isEvent(e) || total < 0 || total > MOST_SHOWN) {
            return BAD;
        }
        int within = now.totalIn(q, e);
        int missing = total - (now.total(e) - within);
        int tells = now.tells[q];
        int each = tells < 1 ? 0 : within / tells;
        if (each < 1) {
            return missing == 0 ? 0 : NONE;
        }
        boolean reached = missing >= 0 && missing % each == 0 && missing / each <= MOST_TOLD;
        return reached ? missing / each : NONE;
    }

    public int hot(int e, int x, int what) {
        if (!isEvent(e) || x < 1 || x > 100 || !isEither(what)) {
            return BAD;
        }
        int total = now.total(e);
        if (total < 1) {
            return NONE;
        }
        // The least whole number of EVENTS that is x of 100 or more.
        int need = (x * total + 99) / 100;
        int size = fewestLines(e, need);
        return what == 0 ? size : leastLines(e, need, size);
    }

    private int fewestLines(int e, int need) {
        for (int n = 1; n < now.lines; n++) {
            if (now.mostOf(e, now.lines, n) >= need) {
                return n;
            }
        }
        return now.lines;
    }

    private int leastLines(int e, int need, int size) {
        int bits = 0;
        int made = 0;
        int left = size;
        // The least bits go without a high LINE wherever the lower ones can do it.
        for (int l = now.lines - 1; l >= 0 && left > 0; l--) {
            if (made + now.mostOf(e, l, left) < need) {
                bits |= 1 << l;
                made += now.made(l, e);
                left--;
            }
        }
        return bits;
    }

    public int keep() {
        kept.take(now);
        return now.lines;
    }

    public int beside(int e, int what) {
        if (!isEvent(e)) {
            return BAD;
        }
        switch (what) {
            case 0:
                return now.total(e);
            case 1:
                return kept.total(e);
            case 2:
                return kept.linesThatDiffer(now, e, 1);
            case 3:
                return kept.linesThatDiffer(now, e, -1);
            case 4:
                return kept.farthestLine(now, e);
            default:
                return BAD;
        }
    }

    // ---- counters

    public int counters(int v) {
        if (v < 1 || v > Bank.MOST) {
            return BAD;
        }
        int was = bank.size;
        bank.begin(v);
        runs.size = 0;
        return was;
    }

    public int mask(int c, int events) {
        if (!bank.has(c) || !isSet(events)) {
            return BAD;
        }
        int was = bank.masks[c];
        bank.masks[c] = events;
        bank.known = false;
        return was;
    }

    public int width(int c, int w) {
        if (!bank.has(c) || w < 2 || w > 16) {
            return BAD;
        }
        int was = bank.widths[c];
        bank.widths[c] = w;
        return was;
    }

    public int together(int events) {
        if (!isSet(events)) {
            return BAD;
        }
        return bank.canPlace(events, 0) ? 1 : 0;
    }

    public int goes(int events, int e) {
        return isOneOf(e, events) ? bank.counterFor(events, e) : BAD;
    }

    public int rounds(int events, int what) {
        if (!isSet(events) || what != 0 && !isEvent(what - 10)) {
            return BAD;
        }
        int n = bank.divide(events);
        if (n < 0) {
            return NONE;
        }
        if (what == 0) {
            return n;
        }
        return what - 10 < n ? bank.roundSets[what - 10] : BAD;
    }

    // ---- slices

    public int sliced(int events, int t, int e, int what) {
        if (!isOneOf(e, events) || !isSlice(t) || !isEither(what)) {
            return BAD;
        }
        int n = bank.divide(events);
        if (n < 1) {
            return NONE;
        }
        turns.take(now, t, n, bank.roundOf(e, n), e);
        return what == 0 ? turns.counted : turns.ticks;
    }

    public long scaled(int events, int t, int e, int what) {
        if (!isOneOf(e, events) || !isSlice(t) || what < 0 || what > 3) {
            return BAD_SCALED;
        }
        int n = bank.divide(events);
        if (n < 1) {
            return NONE_SCALED;
        }
        turns.take(now, t, n, bank.roundOf(e, n), e);
        if (turns.ticks < 1) {
            return NONE_SCALED;
        }
        long above = what < 2 ? turns.scaledUp(now) : turns.off(now, e);
        return inLowestTerms(above, turns.ticks, what % 2 == 0);
    }

    public int finest(int events, int t, int u, int e) {
        if (!isOneOf(e, events) || !isSlice(t) || !isSlice(u) || !isRange(t, u)) {
            return BAD;
        }
        int n = bank.divide(events);
        return n < 1 ? NONE : nearestSlice(t, u, n, e);
    }

    private int nearestSlice(int t, int u, int n, int e) {
        int round = bank.roundOf(e, n);
        int best = NONE;
        long bestOff = 0;
        long bestTicks = 1;
        for (int s = t; s <= u; s++) {
            turns.take(now, s, n, round, e);
            long off = Math.abs(turns.off(now, e));
            if (turns.ticks > 0 && (best == NONE || off * bestTicks < bestOff * turns.ticks)) {
                best = s;
                bestOff = off;
                bestTicks = turns.ticks;
            }
        }
        return best;
    }

    // ---- samples

    public int shows(int e, int p, int b, int k, int l) {
        if (!areSamples(e, p, b, k) || !now.hasLine(l)) {
            return BAD;
        }
        taken.take(now, e, p, b, k);
        return taken.shown[l];
    }

    public int samples(int e, int p, int b, int k, int what) {
        if (!areSamples(e, p, b, k) || what < 0 || what > 5) {
            return BAD;
        }
        taken.take(now, e, p, b, k);
        switch (what) {
            case 0:
                return taken.lost + taken.allShown;
            case 1:
                return taken.lost;
            case 2:
                return taken.linesShown();
            case 3:
                return now.linesThatMake(e) & ~taken.linesShown();
            case 4:
                return taken.linesShown() & ~now.linesThatMake(e);
            default:
                return taken.lineShownMost();
        }
    }

    public long far(int e, int p, int b, int k, int what) {
        if (!areSamples(e, p, b, k) || !isEither(what)) {
            return BAD;
        }
        taken.take(now, e, p, b, k);
        long below = (long) taken.allShown * now.total(e);
        if (below < 1) {
            return NONE;
        }
        return inLowestTerms(taken.farFrom(now, e), below, what == 0);
    }

    public int truest(int e, int p, int q, int k) {
        if (!areSamples(e, p, 0, k) || q > LONGEST_PERIOD || !isRange(p, q)) {
            return BAD;
        }
        int best = NONE;
        long bestFar = 0;
        long bestShown = 1;
        for (int period = p; period <= q; period++) {
            taken.take(now, e, period, 0, k);
            long far = taken.farFrom(now, e);
            // The EVENTS of all stand below every share, so they need not be compared.
            if (taken.allShown > 0 && (best == NONE || far * bestShown < bestFar * taken.allShown)) {
                best = period;
                bestFar = far;
                bestShown = taken.allShown;
            }
        }
        return best;
    }

    public int beats(int e, int p, int b, int what) {
        if (!areSamples(e, p, b, 0) || what < 0 || what > 2) {
            return BAD;
        }
        int total = now.total(e);
        int common = (int) commonDivisor(total, p);
        if (total < 1 || common < 1) {
            return 0;
        }
        if (what == 2) {
            return p / common;
        }
        // Round and round the sum at the beginning comes to all that differ from b by what total and
        // period have in common: one time with that as the period shows all of them at once.
        taken.take(now, e, common, b % common, 0);
        int ever = taken.linesShown();
        return what == 0 ? ever : now.linesThatMake(e) & ~ever;
    }

    // ---- counters that run over

    public int over(int c, int e, int v, int what) {
        if (!bank.counts(c, e) || v < 0 || v > bank.greatest(c) || !isEither(what)) {
            return BAD;
        }
        int sum = v + now.total(e);
        return what == 0 ? sum & bank.greatest(c) : sum >> bank.widths[c];
    }

    public int looked(int c, int e, int t, int what) {
        if (!bank.counts(c, e) || !isSlice(t) || what < 0 || what > 2) {
            return BAD;
        }
        looks.take(now, e, t, bank.greatest(c));
        switch (what) {
            case 0:
                return looks.told;
            case 1:
                return now.total(e) - looks.told;
            default:
                return looks.often;
        }
    }

    public int seldom(int c, int e) {
        if (!bank.counts(c, e)) {
            return BAD;
        }
        return looks.longestWithoutLoss(now, e, bank.greatest(c));
    }

    // ---- wired wrong

    public int run(int c, int e, int shown) {
        if (!bank.has(c) || !isEvent(e) || shown < 0 || shown > MOST_SHOWN) {
            return BAD;
        }
        return runs.add(c, e, shown) ? runs.size : FULL;
    }

    public int forget() {
        int were = runs.size;
        runs.size = 0;
        return were;
    }

    public int wired(int c, int e, int what) {
        if (!bank.has(c) || !isEvent(e) || what != 0 && what < 10) {
            return BAD;
        }
        if (!runs.hasOneOf(c, e)) {
            return what == 0 ? NONE : BAD;
        }
        runs.guess(now, c, e);
        if (what == 0) {
            return runs.guessed;
        }
        return what - 10 < runs.guessed ? runs.guesses[what - 10] : BAD;
    }

    // ---- sheets

    public int sheet(int k, int lane, int n) {
        if (!sheets.has(k) || !sheets.hasLane(lane) || n > Sheets.MOST) {
            return BAD;
        }
        if (n < 0) {
            return Sheets.SIZE;
        }
        sheets.renew(k, lane, n);
        return 1;
    }

    public int lay(int k, int i, int v) {
        if (!sheets.has(k)) {
            return BAD;
        }
        return sheets.put(k, i, v);
    }

    public int said(int k, int lane, int f, int e, int what) {
        if (!sheets.has(k) || !sheets.hasLane(lane) || !isEvent(e) || what < 0 || what > 3) {
            return BAD;
        }
        int wrong = sheets.faultOf(k, lane, f, now.lines);
        return wrong != 0 ? wrong : sheets.compare(k, f, now, e, what);
    }

    public int count(int what) {
        if (bank.has(what - 10)) {
            return bank.masks[what - 10];
        }
        if (bank.has(what - 20)) {
            return bank.widths[what - 20];
        }
        switch (what) {
            case 0:
                return now.lines;
            case 1:
                return bank.size;
            case 2:
                return runs.size;
            case 3:
                return tape.size;
            case 4:
                return sheets.sizes[0] < 0 ? NONE : sheets.sizes[0];
            case 5:
                return now.loops;
            default:
                return BAD;
        }
    }

    // ---- what numbers may be

    private static boolean isEvent(int e) {
        return e >= 0 && e < EVENTS;
    }

    private static boolean isSet(int events) {
        return events >= 0 && events < SETS;
    }

    private static boolean isOneOf(int e, int events) {
        return isSet(events) && isEvent(e) && (events >> e & 1) != 0;
    }

    private static boolean isEither(int what) {
        return what == 0 || what == 1;
    }

    private static boolean isSlice(int t) {
        return t >= 1 && t <= LONGEST_SLICE;
    }

    private static boolean isRange(int from, int to) {
        return from <= to && to - from < MOST_TRIED;
    }

    private static boolean areSamples(int e, int p, int b, int k) {
        return isEvent(e) && p >= 1 && p <= LONGEST_PERIOD && b >= 0 && b < p && k >= 0 && k <= LONGEST_SKID;
    }

    // ---- fractions

    private static long commonDivisor(long one, long other) {
        long a = one;
        long b = other;
        // Two numbers of 63 bits are done in fewer than 100 divisions.
        for (int i = 0; i < 200 && b != 0; i++) {
            long rest = a % b;
            a = b;
            b = rest;
        }
        return a;
    }

    private static long inLowestTerms(long above, long below, boolean wantAbove) {
        long common = commonDivisor(Math.abs(above), below);
        if (common < 1) {
            return 0;
        }
        return (wantAbove ? above : below) / common;
    }

    /** THE TAPE. */
    private static final class Tape {
        static final int LENGTH = 320;

        final byte[] bytes = new byte[LENGTH];
        int size = 0;

        boolean addEight(long v) {
            if (size + 8 > LENGTH) {
                return false;
            }
            for (int shift = 56; shift >= 0; shift -= 8) {
                bytes[size] = (byte) (v >> shift);
                size++;
            }
            return true;
        }
    }

    /** Reads THE TAPE TOKEN by TOKEN and tells a draft of THE PROGRAM. */
    private static final class Reader {
        static final int NAME = 0, NUMBER = 1, SIGN = 2, END = 3;

        private final Tape tape;
        private Program draft;
        private int place = 0;
        private int kind = END;
        private int start = 0;
        private int value = 0;
        int fault = 0;
        int faultPlace = 0;

        Reader(Tape tape, Program draft) {
            this.tape = tape;
            this.draft = draft;
        }

        void readInto(Program empty) {
            draft = empty;
            draft.begin();
            place = 0;
            fault = 0;
            faultPlace = 0;
            takeToken();
            // Each item takes a byte or more, so the text ends before this does.
            for (int i = 0; i <= Tape.LENGTH && fault == 0 && kind != END; i++) {
                if (isWord("line")) {
                    readLine();
                } else if (isWord("loop")) {
                    readLoop();
                } else if (isWord("end") && draft.depth > 0) {
                    takeKind(SIGN);
                    draft.closeLoop();
                } else {
                    fail(2);
                }
                if (fault == 0) {
                    takeToken();
                }
            }
            finish();
        }

        private void finish() {
            if (fault == 0 && draft.depth > 0) {
                fail(2);
            }
            if (fault == 0 && draft.tooLong) {
                fail(6);
            }
        }

        private void readLine() {
            if (draft.lines >= LINES) {
                fail(5);
                return;
            }
            takeNumber(1, 20);
            if (fault != 0) {
                return;
            }
            draft.addLine(value);
            takeToken();
            int had = 0;
            // A LINE that has all EVENTS can have no other, so one time more ends it or fails.
            for (int i = 0; i <= EVENTS && fault == 0 && kind != SIGN; i++) {
                int e = eventNamed(had);
                if (fault == 0) {
                    had |= 1 << e;
                    takeNumber(0, 99);
                    draft.setEvent(e, value);
                }
                if (fault == 0) {
                    takeToken();
                }
            }
        }

        private int eventNamed(int had) {
            int e = start < tape.size ? tape.bytes[start] - 'a' : NONE;
            if (kind != NAME) {
                fail(2);
            } else if (place - start != 1 || !isEvent(e)) {
                fail(3);
            } else if (isOneOf(e, had)) {
                fail(4);
            }
            return e;
        }

        private void readLoop() {
            if (draft.depth >= Program.DEEPEST) {
                fail(5);
                return;
            }
            takeNumber(1, 99);
            if (fault == 0) {
                draft.openLoop(value);
                takeKind(SIGN);
            }
        }

        private void takeNumber(int least, int greatest) {
            takeToken();
            if (fault == 0 && kind != NUMBER) {
                fail(2);
            } else if (fault == 0 && (value < least || value > greatest)) {
                fail(3);
            }
        }

        private void takeKind(int due) {
            takeToken();
            if (fault == 0 && kind != due) {
                fail(2);
            }
        }

        private void takeToken() {
            while (place < tape.size && tape.bytes[place] == ' ') {
                place++;
            }
            start = place;
            if (place >= tape.size) {
                kind = END;
            } else if (isLetter(tape.bytes[place])) {
                takeLetters();
            } else if (isFigure(tape.bytes[place])) {
                takeFigures();
            } else if (tape.bytes[place] == ';') {
                kind = SIGN;
                place++;
            } else {
                fail(1);
            }
        }

        private void takeLetters() {
            kind = NAME;
            while (place < tape.size && isLetter(tape.bytes[place])) {
                place++;
            }
        }

        private void takeFigures() {
            kind = NUMBER;
            value = 0;
            while (place < tape.size && isFigure(tape.bytes[place])) {
                if (place - start < 2) {
                    value = value * 10 + tape.bytes[place] - '0';
                }
                place++;
            }
            if (place - start > 2) {
                fail(1);
            }
        }

        private boolean isWord(String word) {
            if (kind != NAME || place - start != word.length()) {
                return false;
            }
            for (int i = 0; i < word.length(); i++) {
                if (tape.bytes[start + i] != word.charAt(i)) {
                    return false;
                }
            }
            return true;
        }

        private void fail(int number) {
            fault = number;
            faultPlace = start;
        }

        private static boolean isLetter(int sign) {
            return sign >= 'a' && sign <= 'z';
        }

        private static boolean isFigure(int sign) {
            return sign >= '0' && sign <= '9';
        }
    }

    /** LINES and LOOPS as they stand in the text, and the STEPS that they come to. */
    private static final class Program {
        static final int DEEPEST = 4;
        /** 320 bytes hold no more than 33: ten bytes for each that ends, four at most do not. */
        static final int LOOPS = 40;

        int lines = 0;
        final int[] ticks = new int[LINES];
        final int[] times = new int[LINES];
        final int[] inside = new int[LINES];
        final int[][] each = new int[LINES][EVENTS];

        int loops = 0;
        final int[] tells = new int[LOOPS];
        final int[] around = new int[LOOPS];
        final int[] comes = new int[LOOPS];
        final int[] firstLine = new int[LOOPS];
        final int[] behindLine = new int[LOOPS];
        private final int[] firstStep = new int[LOOPS];

        private final int[] open = new int[DEEPEST];
        int depth = 0;
        private int repeats = 1;

        int steps = 0;
        boolean tooLong = false;
        final byte[] lineOf = new byte[STEPS];
        final int[] tickAt = new int[STEPS + 1];

        void begin() {
            lines = 0;
            loops = 0;
            depth = 0;
            repeats = 1;
            steps = 0;
            tooLong = false;
        }

        void addLine(int howLong) {
            if (lines >= LINES) {
                return;
            }
            ticks[lines] = howLong;
            times[lines] = repeats;
            inside[lines] = depth;
            for (int e = 0; e < EVENTS; e++) {
                each[lines][e] = 0;
            }
            if (steps < STEPS) {
                lineOf[steps] = (byte) lines;
                steps++;
            } else {
                tooLong = true;
            }
            lines++;
        }

        void setEvent(int e, int howMany) {
            if (lines > 0) {
                each[lines - 1][e] = howMany;
            }
        }

        void openLoop(int often) {
            if (loops >= LOOPS || depth >= DEEPEST) {
                return;
            }
            tells[loops] = often;
            around[loops] = depth;
            comes[loops] = repeats;
            firstLine[loops] = lines;
            behindLine[loops] = lines;
            firstStep[loops] = steps;
            open[depth] = loops;
            depth++;
            repeats *= often;
            loops++;
        }

        void closeLoop() {
            if (depth < 1) {
                return;
            }
            depth--;
            int q = open[depth];
            repeats = comes[q];
            behindLine[q] = lines;
            repeatSteps(firstStep[q], tells[q]);
        }

        /** A LOOP without LINES makes no STEPS however often it tells, so the STEPS are copied, not gone through. */
        private void repeatSteps(int first, int often) {
            int block = steps - first;
            int behind = first + block * often;
            if (behind > STEPS) {
                tooLong = true;
                return;
            }
            for (int i = steps; i < behind; i++) {
                lineOf[i] = lineOf[i - block];
            }
            steps = behind;
        }

        void timeSteps() {
            tickAt[0] = 0;
            for (int i = 0; i < steps; i++) {
                tickAt[i + 1] = tickAt[i] + ticks[lineOf[i]];
            }
        }

        boolean hasLine(int l) {
            return l >= 0 && l < lines;
        }

        boolean hasLoop(int q) {
            return q >= 0 && q < loops;
        }

        int allTicks() {
            return tickAt[steps];
        }

        int sliceOf(int step, int t) {
            return t < 1 ? 0 : tickAt[step] / t;
        }

        int made(int l, int e) {
            return l < lines ? times[l] * each[l][e] : 0;
        }

        int total(int e) {
            return totalBetween(0, lines, e);
        }

        int totalIn(int q, int e) {
            return totalBetween(firstLine[q], behindLine[q], e);
        }

        private int totalBetween(int first, int behind, int e) {
            int sum = 0;
            for (int l = first; l < behind; l++) {
                sum += times[l] * each[l][e];
            }
            return sum;
        }

        int linesIn(int q) {
            return (1 << behindLine[q]) - (1 << firstLine[q]);
        }

        int stepsIn(int q) {
            int sum = 0;
            for (int l = firstLine[q]; l < behindLine[q]; l++) {
                sum += times[l];
            }
            return sum;
        }

        int linesThatMake(int e) {
            int bits = 0;
            for (int l = 0; l < lines; l++) {
                if (each[l][e] > 0) {
                    bits |= 1 << l;
                }
            }
            return bits;
        }

        /** What the n LINES (or fewer) below one that make the most of an EVENT make of it. */
        int mostOf(int e, int below, int n) {
            int sum = 0;
            int used = 0;
            for (int i = 0; i < n; i++) {
                int best = bestLine(e, below, used);
                if (best >= 0) {
                    used |= 1 << best;
                    sum += made(best, e);
                }
            }
            return sum;
        }

        private int bestLine(int e, int below, int used) {
            int best = -1;
            for (int l = 0; l < below; l++) {
                if ((used >> l & 1) == 0 && (best < 0 || made(l, e) > made(best, e))) {
                    best = l;
                }
            }
            return best;
        }
    }

    /** What each LINE made of each EVENT when it was KEPT. */
    private static final class Kept {
        private final int[][] made = new int[LINES][EVENTS];

        void take(Program program) {
            for (int l = 0; l < LINES; l++) {
                for (int e = 0; e < EVENTS; e++) {
                    made[l][e] = program.made(l, e);
                }
            }
        }

        int total(int e) {
            int sum = 0;
            for (int l = 0; l < LINES; l++) {
                sum += made[l][e];
            }
            return sum;
        }

        private int difference(Program program, int l, int e) {
            return program.made(l, e) - made[l][e];
        }

        int linesThatDiffer(Program program, int e, int sign) {
            int bits = 0;
            for (int l = 0; l < LINES; l++) {
                if (difference(program, l, e) * sign > 0) {
                    bits |= 1 << l;
                }
            }
            return bits;
        }

        int farthestLine(Program program, int e) {
            int best = NONE;
            int most = 0;
            for (int l = 0; l < LINES; l++) {
                int far = Math.abs(difference(program, l, e));
                if (far > most) {
                    best = l;
                    most = far;
                }
            }
            return best;
        }
    }

    /** COUNTERS, which EVENTS go on them together, and ROUNDS. */
    private static final class Bank {
        static final int MOST = 4;
        /** Stands for a set that no ROUNDS can count. */
        private static final int NEVER = 100;

        int size = 0;
        final int[] masks = new int[MOST];
        final int[] widths = new int[MOST];
        final int[] roundSets = new int[EVENTS];
        private final boolean[] fits = new boolean[SETS];
        private final int[] fewest = new int[SETS];
        /** Whether fits and fewest are of the MASKS as they are. */
        boolean known = false;

        void begin(int howMany) {
            size = howMany;
            known = false;
            for (int c = 0; c < MOST; c++) {
                masks[c] = SETS - 1;
                widths[c] = 8;
            }
        }

        boolean has(int c) {
            return c >= 0 && c < size;
        }

        boolean counts(int c, int e) {
            return has(c) && isOneOf(e, masks[c]);
        }

        int greatest(int c) {
            return (1 << widths[c]) - 1;
        }

        /** Goes no deeper than there are COUNTERS: each one that is used is used no more. */
        private boolean canPlace(int left, int used) {
            if (left == 0) {
                return true;
            }
            return leastCounter(left, used) >= 0;
        }

        /** The least COUNTER for the least EVENT by which all others go on COUNTERS that are not used. */
        private int leastCounter(int left, int used) {
            int event = left & -left;
            if (Integer.bitCount(left) > size - Integer.bitCount(used)) {
                return NONE;
            }
            for (int c = 0; c < size; c++) {
                boolean free = (used >> c & 1) == 0 && (masks[c] & event) != 0;
                if (free && canPlace(left ^ event, used | 1 << c)) {
                    return c;
                }
            }
            return NONE;
        }

        int counterFor(int events, int e) {
            int left = events;
            int used = 0;
            for (int i = 0; i <= e; i++) {
                if ((left >> i & 1) != 0) {
                    int c = leastCounter(left, used);
                    if (c < 0 || i == e) {
                        return c;
                    }
                    left ^= 1 << i;
                    used |= 1 << c;
                }
            }
            return NONE;
        }

        private void learn() {
            if (known) {
                return;
            }
            known = true;
            for (int set = 0; set < SETS; set++) {
                fits[set] = canPlace(set, 0);
                fewest[set] = fewestFor(set);
            }
        }

        /** All lesser sets are known already. */
        private int fewestFor(int set) {
            if (set == 0) {
                return 0;
            }
            int least = set & -set;
            int others = set ^ least;
            int best = NEVER;
            int part = others;
            for (int i = 0; i < SETS; i++) {
                if (fits[part | least]) {
                    best = Math.min(best, fewest[others ^ part] + 1);
                }
                if (part == 0) {
                    break;
                }
                part = part - 1 & others;
            }
            return best;
        }

        /** How many ROUNDS; below 0: there can be none. */
        int divide(int events) {
            learn();
            int n = fewest[events];
            if (n >= NEVER) {
                return NONE;
            }
            int left = events;
            for (int i = 0; i < n && i < EVENTS; i++) {
                roundSets[i] = leastRound(left);
                left ^= roundSets[i];
            }
            return n;
        }

        private int leastRound(int left) {
            int least = left & -left;
            for (int set = least; set < left; set++) {
                boolean part = (set & ~left) == 0 && (set & least) != 0;
                if (part && fits[set] && fewest[left ^ set] < fewest[left]) {
                    return set;
                }
            }
            return left;
        }

        int roundOf(int e, int n) {
            for (int i = 0; i < n && i < EVENTS; i++) {
                if (isOneOf(e, roundSets[i])) {
                    return i;
                }
            }
            return 0;
        }
    }

    /** What is COUNTED of an EVENT in the SLICES of its ROUND. */
    private static final class Turns {
        int counted = 0;
        int ticks = 0;

        void take(Program program, int t, int rounds, int round, int e) {
            counted = 0;
            ticks = 0;
            if (rounds < 1) {
                return;
            }
            for (int i = 0; i < program.steps; i++) {
                if (program.sliceOf(i, t) % rounds == round) {
                    int l = program.lineOf[i];
                    counted += program.each[l][e];
                    ticks += program.ticks[l];
                }
            }
        }

        /** SCALED times the TICKS that were had. */
        long scaledUp(Program program) {
            return (long) counted * program.allTicks();
        }

        /** How far SCALED is from what was so, times the TICKS that were had. */
        long off(Program program, int e) {
            return scaledUp(program) - (long) program.total(e) * ticks;
        }
    }

    /** SAMPLES of an EVENT. */
    private static final class Samples {
        final int[] shown = new int[LINES];
        int allShown = 0;
        int lost = 0;

        void take(Program program, int e, int p, int b, int k) {
            for (int l = 0; l < LINES; l++) {
                shown[l] = 0;
            }
            allShown = 0;
            lost = 0;
            if (p < 1) {
                return;
            }
            int sum = b;
            for (int i = 0; i < program.steps; i++) {
                sum += program.each[program.lineOf[i]][e];
                if (sum >= p) {
                    show(program, i + k, sum / p);
                    sum %= p;
                }
            }
        }

        private void show(Program program, int step, int howMany) {
            if (step < program.steps) {
                shown[program.lineOf[step]] += howMany;
                allShown += howMany;
            } else {
                lost += howMany;
            }
        }

        int linesShown() {
            int bits = 0;
            for (int l = 0; l < LINES; l++) {
                if (shown[l] > 0) {
                    bits |= 1 << l;
                }
            }
            return bits;
        }

        int lineShownMost() {
            int best = NONE;
            int most = 0;
            for (int l = 0; l < LINES; l++) {
                if (shown[l] > most) {
                    best = l;
                    most = shown[l];
                }
            }
            return best;
        }

        /** FAR times all SAMPLES that show a LINE and all of the EVENT. */
        long farFrom(Program program, int e) {
            long total = program.total(e);
            long sum = 0;
            for (int l = 0; l < LINES; l++) {
                sum += Math.abs(shown[l] * total - (long) program.made(l, e) * allShown);
            }
            return sum;
        }
    }

    /** A COUNTER that runs over and is LOOKED at. */
    private static final class Looks {
        int told = 0;
        int often = 0;
        private int lossBegins = 0;
        private int lossEnds = 0;

        void take(Program program, int e, int t, int greatest) {
            told = 0;
            often = 0;
            int slice = 0;
            int since = 0;
            for (int i = 0; i < program.steps; i++) {
                int itsSlice = program.sliceOf(i, t);
                if (itsSlice != slice) {
                    slice = itsSlice;
                    told += since & greatest;
                    often++;
                    since = 0;
                }
                since += program.each[program.lineOf[i]][e];
            }
            told += since & greatest;
            often++;
        }

        int longestWithoutLoss(Program program, int e, int greatest) {
            boolean lossKnown = false;
            for (int t = LONGEST_SLICE; t >= 1; t--) {
                // The STEPS that made too much for the SLICE before do so again if one SLICE has them all.
                boolean again = lossKnown && program.sliceOf(lossBegins, t) == program.sliceOf(lossEnds, t);
                if (!again && !loses(program, e, t, greatest)) {
                    return t;
                }
                lossKnown = true;
            }
            return NONE;
        }

        private boolean loses(Program program, int e, int t, int greatest) {
            int slice = 0;
            int since = 0;
            int begins = 0;
            for (int i = 0; i < program.steps; i++) {
                int itsSlice = program.sliceOf(i, t);
                if (itsSlice != slice) {
                    slice = itsSlice;
                    since = 0;
                }
                if (since == 0) {
                    begins = i;
                }
                since += program.each[program.lineOf[i]][e];
                if (since > greatest) {
                    lossBegins = begins;
                    lossEnds = i;
                    return true;
                }
            }
            return false;
        }
    }

    /** What COUNTERS showed by hand, and GUESSES from it. */
    private static final class Runs {
        private static final int MOST = 12;

        int size = 0;
        private final int[] counterOf = new int[MOST];
        private final int[] eventOf = new int[MOST];
        private final int[] shown = new int[MOST];
        int guessed = 0;
        /** Eight of one EVENT, twenty-eight of two. */
        final int[] guesses = new int[36];

        boolean add(int c, int e, int number) {
            if (size >= MOST) {
                return false;
            }
            counterOf[size] = c;
            eventOf[size] = e;
            shown[size] = number;
            size++;
            return true;
        }

        private boolean isOf(int i, int c, int e) {
            return counterOf[i] == c && eventOf[i] == e;
        }

        boolean hasOneOf(int c, int e) {
            for (int i = 0; i < size; i++) {
                if (isOf(i, c, e)) {
                    return true;
                }
            }
            return false;
        }

        void guess(Program program, int c, int e) {
            guessed = 0;
            for (int events = 1; events <= 2; events++) {
                for (int set = 1; set < SETS; set++) {
                    if (Integer.bitCount(set) == events && allShowed(c, e, totalOf(program, set))) {
                        addGuess(set);
                    }
                }
            }
        }

        private void addGuess(int set) {
            if (guessed < guesses.length) {
                guesses[guessed] = set;
                guessed++;
            }
        }

        private static int totalOf(Program program, int set) {
            int sum = 0;
            for (int e = 0; e < EVENTS; e++) {
                if (isOneOf(e, set)) {
                    sum += program.total(e);
                }
            }
            return sum;
        }

        private boolean allShowed(int c, int e, int number) {
            for (int i = 0; i < size; i++) {
                if (isOf(i, c, e) && shown[i] != number) {
                    return false;
                }
            }
            return true;
        }
    }

    /** SHEETS and the FAULTS that the machine finds in them. */
    private static final class Sheets {
        static final int MOST = 40;
        static final int NULL = -11, INDEX = -12, CAST = -13, SIZE = -14;
        private static final int SHEETS = 4;
        private static final int BYTES = 0, SHORTS = 1, INTS = 2;

        private final int[] lanes = new int[SHEETS];
        /** How many CELLS; below 0: nothing. */
        final int[] sizes = {-1, -1, -1, -1};
        private final int[][] cells = new int[SHEETS][MOST];

        boolean has(int k) {
            return k >= 0 && k < SHEETS;
        }

        boolean hasLane(int lane) {
            return lane >= BYTES && lane <= INTS;
        }

        void renew(int k, int lane, int n) {
            lanes[k] = lane;
            sizes[k] = n;
            for (int i = 0; i < MOST; i++) {
                cells[k][i] = 0;
            }
        }

        int put(int k, int i, int v) {
            if (sizes[k] < 0) {
                return NULL;
            }
            if (i < 0 || i >= sizes[k]) {
                return INDEX;
            }
            cells[k][i] = lowestBits(lanes[k], v);
            return 1;
        }

        private static int lowestBits(int lane, int v) {
            if (lane == BYTES) {
                return (byte) v;
            }
            return lane == SHORTS ? (short) v : v;
        }

        /** The first that is met in reading a CELL for each LINE; 0: there is none. */
        int faultOf(int k, int lane, int first, int lines) {
            if (sizes[k] < 0) {
                return NULL;
            }
            if (lanes[k] != lane) {
                return CAST;
            }
            for (int l = 0; l < lines; l++) {
                long i = (long) first + l;
                if (i < 0 || i >= sizes[k]) {
                    return INDEX;
                }
                if (cells[k][(int) i] < 0 || cells[k][(int) i] > MOST_SHOWN) {
                    return -20 - l;
                }
            }
            return 0;
        }

        /** Only behind faultOf, which has looked at each CELL. */
        int compare(int k, int first, Program program, int e, int what) {
            int right = 0;
            int firstWrong = NONE;
            int tooMuch = 0;
            int tooLittle = 0;
            for (int l = 0; l < program.lines; l++) {
                int difference = cells[k][first + l] - program.made(l, e);
                if (difference == 0) {
                    right++;
                } else if (firstWrong == NONE) {
                    firstWrong = l;
                }
                tooMuch += Math.max(difference, 0);
                tooLittle += Math.max(-difference, 0);
            }
            switch (what) {
                case 0:
                    return right;
                case 1:
                    return firstWrong;
                case 2:
                    return tooMuch;
                default:
                    return tooLittle;
            }
        }
    }
}
