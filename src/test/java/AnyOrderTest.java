import java.math.BigInteger;
import java.nio.ByteBuffer;
import java.util.ArrayList;
import java.util.Arrays;
import java.util.List;
import java.util.Random;

/** All calls in any order on one object, beside a plain state: what a call leaves behind, each later one has to find. */
final class AnyOrderTest {
    private static final int BAD = EventCounters.BAD, FULL = EventCounters.FULL, NONE = EventCounters.NONE;
    private static final int CALLS = 512;
    private final Random random;
    private final EventCounters x = new EventCounters();
    private int left = CALLS;

    private byte[] tape = {};
    private int fault = 0;
    private Plain plain;
    private Plain kept;
    private int[] widths = {8, 8};
    private List<int[]> runs = new ArrayList<>();
    private final int[] lanes = new int[4];
    private final int[][] cells = new int[4][];

    private AnyOrderTest(int seed) throws PlainText.Fault {
        random = new Random(seed);
        plain = new Plain(new PlainText(""));
        kept = plain;
    }

    public static void main(String[] args) throws PlainText.Fault {
        for (int seed = 0; seed < 150; seed++) {
            new AnyOrderTest(seed).live();
        }
        Due.close();
    }

    private void live() {
        while (left > 0) {
            int kind = below(100);
            if (kind < 1 || plain.lines() == 0 && kind < 50) {
                tell();
            } else if (kind < 14) {
                change();
            } else if (kind < 40) {
                askProgram();
            } else if (kind < 65) {
                askCounters();
            } else if (kind < 75) {
                askSamples();
            } else {
                askRunsAndSheets();
            }
        }
    }

    private int below(int n) {
        return random.nextInt(n);
    }

    /** Mostly 0 to top, at times one that is not. */
    private int about(int top) {
        return top < 0 || below(12) == 0 ? below(2) == 0 ? -1 : top + 1 : below(top + 1);
    }

    /** What later calls answer is free. */
    private void due(String call, long got, long want) {
        if (left > 0) {
            left--;
            Due.due(call, got, want);
        }
    }

    private static boolean isIn(int v, int least, int most) {
        return v >= least && v <= most;
    }

    private boolean isCounter(int c) {
        return isIn(c, 0, widths.length - 1);
    }

    private boolean counts(int c, int e) {
        return isCounter(c) && isIn(e, 0, 7) && (plain.masks[c] >> e & 1) != 0;
    }

    // ---- what changes something

    private void tell() {
        StringBuilder text = new StringBuilder();
        int open = 0;
        for (int i = below(14); i > 0; i--) {
            int kind = below(8);
            if (kind == 0 && open < 4) {
                text.append("loop ").append(1 + below(9)).append(';');
                open++;
            } else if (kind == 1 && open > 0) {
                text.append("end;");
                open--;
            } else {
                text.append("line ").append(1 + below(20));
                for (int e = below(4); e < 8; e += 1 + below(4)) {
                    text.append((char) ('a' + e)).append(below(below(5) == 0 ? 100 : 9));
                }
                text.append(below(30) == 0 ? ' ' : ';');
            }
        }
        text.append("end;".repeat(open));
        due("end(0)", x.end(0), tape.length);
        tape = new byte[0];
        byte[] signs = Arrays.copyOf(text.toString().getBytes(), Math.min(320, text.length()));
        for (int i = 0; i < signs.length; i += 8) {
            feed(ByteBuffer.wrap(Arrays.copyOfRange(signs, i, i + 8)).getLong());
        }
        end(signs.length);
        program();
    }

    private void feed(long v) {
        boolean full = tape.length + 8 > 320;
        due("feed", x.feed(v), full ? FULL : tape.length + 8);
        if (!full) {
            tape = ByteBuffer.allocate(tape.length + 8).put(tape).putLong(v).array();
        }
    }

    private void end(int n) {
        boolean bad = n < 0 || n > tape.length;
        due("end", x.end(n), bad ? BAD : tape.length);
        tape = bad ? tape : Arrays.copyOf(tape, n);
    }

    private void program() {
        StringBuilder text = new StringBuilder();
        for (byte sign : tape) {
            text.append((char) (sign & 255));
        }
        tape = new byte[0];
        try {
            Plain told = new Plain(new PlainText(text.toString()));
            told.masks = plain.masks;
            plain = told;
            fault = 0;
            runs = new ArrayList<>();
            due("program of " + text, x.program(), plain.lines());
        } catch (PlainText.Fault met) {
            fault = met.number;
            due("program of " + text, x.program(), -10 - met.place);
        }
        due("fault", x.fault(), fault);
    }

    private void change() {
        switch (below(10)) {
            case 0:
                feed(random.nextLong());
                break;
            case 1:
                end(about(tape.length));
                break;
            case 2:
                due("keep", x.keep(), plain.lines());
                kept = plain;
                break;
            case 3:
                counters(about(4));
                break;
            case 4: case 5:
                mask(about(widths.length - 1), below(8) == 0 ? about(255) : below(256) | below(256));
                break;
            case 6: case 7:
                width(about(widths.length - 1), below(4) == 0 ? about(17) : 2 + below(7));
                break;
            case 8:
                due("forget", x.forget(), runs.size());
                runs = new ArrayList<>();
                break;
            default:
                feed(0);
                program();
                break;
        }
    }

    private void counters(int k) {
        boolean good = isIn(k, 1, 4);
        due("counters " + k, x.counters(k), good ? widths.length : BAD);
        if (good) {
            widths = new int[k];
            Arrays.fill(widths, 8);
            plain.masks = new int[k];
            Arrays.fill(plain.masks, 255);
            runs = new ArrayList<>();
        }
    }

    private void mask(int c, int events) {
        boolean good = isCounter(c) && isIn(events, 0, 255);
        due("mask " + c + " " + events, x.mask(c, events), good ? plain.masks[c] : BAD);
        if (good) {
            plain.masks[c] = events;
        }
    }

    private void width(int c, int w) {
        boolean good = isCounter(c) && isIn(w, 2, 16);
        due("width " + c + " " + w, x.width(c, w), good ? widths[c] : BAD);
        if (good) {
            widths[c] = w;
        }
    }

    // ---- THE PROGRAM

    private void askProgram() {
        int e = below(8);
        int l = about(plain.lines() - 1);
        int q = about(plain.loopComes.length - 1);
        boolean isLine = isIn(l, 0, plain.lines() - 1);
        boolean isLoop = isIn(q, 0, plain.loopComes.length - 1);
        switch (below(9)) {
            case 0:
                due("line, times", x.line(l, 1), isLine ? plain.times[l] : BAD);
                break;
            case 1:
                due("line, event", x.line(l, 10 + e), isLine ? plain.each(l, e) : BAD);
                break;
            case 2:
                int i = about(plain.steps.size() - 1);
                due("step", x.step(i), isIn(i, 0, plain.steps.size() - 1) ? plain.steps.get(i) : BAD);
                break;
            case 3:
                due("whole", x.whole(10 + e), plain.total(e));
                break;
            case 4:
                due("loop, lines", x.loop(q, 2), isLoop ? plain.loopLines[q] : BAD);
                break;
            case 5:
                int total = plain.total(e) + below(40) - 20;
                due("went", x.went(q, e, total), isLoop && total >= 0 ? plain.went(q, e, total) : BAD);
                break;
            case 6:
                hot(e, about(100));
                break;
            case 7:
                due("fault", x.fault(), fault);
                break;
            default:
                beside(e);
                break;
        }
    }

    private void hot(int e, int share) {
        int what = below(2);
        int want = BAD;
        if (isIn(share, 1, 100)) {
            want = plain.total(e) == 0 ? NONE : plain.hot(e, share)[what];
        }
        due("hot", x.hot(e, share, what), want);
    }

    private void beside(int e) {
        int more = 0;
        int less = 0;
        for (int l = 0; l < 16; l++) {
            more |= plain.made(l, e) > kept.made(l, e) ? 1 << l : 0;
            less |= plain.made(l, e) < kept.made(l, e) ? 1 << l : 0;
        }
        due("beside, now", x.beside(e, 0), plain.total(e));
        due("beside, then", x.beside(e, 1), kept.total(e));
        due("beside, more", x.beside(e, 2), more);
        due("beside, less", x.beside(e, 3), less);
    }

    // ---- COUNTERS, SLICES, what runs over

    private void askCounters() {
        int events = 1 + below(255);
        int e = below(8);
        int t = 1 + below(below(3) == 0 ? 999 : 40);
        int c = about(widths.length - 1);
        switch (below(6)) {
            case 0:
                due("together", x.together(events), plain.way(events) == null ? 0 : 1);
                break;
            case 1:
                int there = plain.way(events) == null ? NONE : plain.way(events)[e];
                due("goes", x.goes(events, e), (events >> e & 1) == 0 ? BAD : there);
                break;
            case 2:
                rounds(events);
                break;
            case 3:
                slices(events, t, e);
                break;
            case 4:
                int what = below(3);
                due("looked", x.looked(c, e, t, what), counts(c, e) ? plain.looked(e, widths[c], t)[what] : BAD);
                break;
            default:
                int v = counts(c, e) ? about((1 << widths[c]) - 1) : 0;
                boolean good = counts(c, e) && isIn(v, 0, (1 << widths[c]) - 1);
                due("over", x.over(c, e, v, 0), good ? plain.over(e, widths[c], v)[0] : BAD);
                if (below(4) == 0) {
                    due("seldom", x.seldom(c, e), counts(c, e) ? plain.seldom(e, widths[c]) : BAD);
                }
                break;
        }
    }

    private void rounds(int events) {
        List<Integer> rounds = plain.rounds(events);
        int i = below(4);
        due("rounds", x.rounds(events, 0), rounds == null ? NONE : rounds.size());
        if (rounds != null) {
            due("round", x.rounds(events, 10 + i), i < rounds.size() ? rounds.get(i) : BAD);
        }
    }

    private void slices(int events, int t, int e) {
        boolean bad = (events >> e & 1) == 0;
        List<Integer> rounds = plain.rounds(events);
        int what = below(2);
        int counted = bad ? BAD : rounds == null ? NONE : plain.sliced(rounds, t, e)[what];
        due("sliced", x.sliced(events, t, e, what), counted);
        BigInteger[] scaled = bad || rounds == null ? null : plain.scaled(rounds, t, e);
        long none = bad ? -1000000000000L : -1000000000004L;
        due("scaled", x.scaled(events, t, e, 2 + what), scaled == null ? none : scaled[2 + what].longValueExact());
    }

    // ---- SAMPLES

    private void askSamples() {
        int e = below(8);
        int p = 1 + below(below(2) == 0 ? 9 : 300);
        int b = about(p - 1);
        int k = about(9);
        int l = about(plain.lines() - 1);
        boolean good = isIn(b, 0, p - 1) && isIn(k, 0, 9);
        int[] shows = good ? plain.samples(e, p, b, k) : new int[17];
        due("shows", x.shows(e, p, b, k, l), good && isIn(l, 0, plain.lines() - 1) ? shows[l] : BAD);
        due("samples, lost", x.samples(e, p, b, k, 1), good ? shows[16] : BAD);
        BigInteger[] far = good ? plain.far(e, p, b, k) : null;
        long none = good ? NONE : BAD;
        due("far", x.far(e, p, b, k, 0), far == null ? none : far[0].longValueExact());
        if (isIn(b, 0, p - 1)) {
            due("beats", x.beats(e, p, b, 0), plain.beats(e, p, b)[0]);
        }
        if (isIn(k, 0, 9) && below(4) == 0) {
            due("truest", x.truest(e, p, p + 5, k), plain.truest(e, p, p + 5, k));
        }
    }

    // ---- RUNS, SHEETS, how many there are

    private void askRunsAndSheets() {
        int e = below(8);
        int k = about(3);
        switch (below(8)) {
            case 0: case 1:
                run(about(Math.min(1, widths.length - 1)), below(2));
                break;
            case 2:
                guesses(below(widths.length), below(2));
                break;
            case 3:
                sheet(k, about(2), below(5) == 0 ? about(40) : plain.lines());
                break;
            case 4: case 5:
                lay(k, about(plain.lines()), e);
                break;
            case 6:
                said(k, e);
                break;
            default:
                counts();
                break;
        }
    }

    private void run(int c, int e) {
        int shown = plain.total(below(8)) + (below(2) == 0 ? 0 : plain.total(below(8)));
        boolean full = runs.size() == 12;
        due("run", x.run(c, e, shown), !isCounter(c) ? BAD : full ? FULL : runs.size() + 1);
        if (isCounter(c) && !full) {
            runs.add(new int[] {c, e, shown});
        }
    }

    private void guesses(int c, int e) {
        List<Integer> shown = new ArrayList<>();
        for (int[] run : runs) {
            if (run[0] == c && run[1] == e) {
                shown.add(run[2]);
            }
        }
        List<Integer> guesses = shown.isEmpty() ? new ArrayList<>() : plain.guesses(shown);
        due("wired", x.wired(c, e, 0), shown.isEmpty() ? NONE : guesses.size());
        int i = below(guesses.size() + 1);
        due("guess", x.wired(c, e, 10 + i), i < guesses.size() ? guesses.get(i) : BAD);
    }

    private void sheet(int k, int lane, int n) {
        boolean bad = !isIn(k, 0, 3) || !isIn(lane, 0, 2) || n > 40;
        due("sheet", x.sheet(k, lane, n), bad ? BAD : n < 0 ? -14 : 1);
        if (!bad && n >= 0) {
            lanes[k] = lane;
            cells[k] = new int[n];
        }
    }

    private void lay(int k, int i, int e) {
        int v = below(3) == 0 ? random.nextInt() >> below(32) : plain.made(Math.max(0, Math.min(15, i)), e);
        if (!isIn(k, 0, 3)) {
            due("lay", x.lay(k, i, v), BAD);
        } else if (cells[k] == null) {
            due("lay", x.lay(k, i, v), -11);
        } else if (!isIn(i, 0, cells[k].length - 1)) {
            due("lay", x.lay(k, i, v), -12);
        } else {
            due("lay", x.lay(k, i, v), 1);
            cells[k][i] = lanes[k] == 0 ? (byte) v : lanes[k] == 1 ? (short) v : v;
        }
    }

    private void said(int k, int e) {
        int lane = isIn(k, 0, 3) && below(6) != 0 ? lanes[k] : below(3);
        due("said", x.said(k, lane, 0, e, 2), isIn(k, 0, 3) ? tooMuch(k, lane, e) : BAD);
    }

    private int tooMuch(int k, int lane, int e) {
        if (cells[k] == null || lanes[k] != lane) {
            return cells[k] == null ? -11 : -13;
        }
        int sum = 0;
        for (int l = 0; l < plain.lines(); l++) {
            if (l >= cells[k].length) {
                return -12;
            }
            if (!isIn(cells[k][l], 0, 999999)) {
                return -20 - l;
            }
            sum += Math.max(0, cells[k][l] - plain.made(l, e));
        }
        return sum;
    }

    private void counts() {
        int c = about(widths.length - 1);
        due("count, lines", x.count(0), plain.lines());
        due("count, counters", x.count(1), widths.length);
        due("count, runs", x.count(2), runs.size());
        due("count, bytes", x.count(3), tape.length);
        due("count, cells", x.count(4), cells[0] == null ? NONE : cells[0].length);
        due("count, mask", x.count(10 + c), isCounter(c) ? plain.masks[c] : BAD);
        due("count, width", x.count(20 + c), isCounter(c) ? widths[c] : BAD);
    }
}
