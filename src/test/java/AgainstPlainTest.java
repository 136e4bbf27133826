import java.math.BigInteger;
import java.util.ArrayList;
import java.util.List;
import java.util.Random;

/** Random texts, COUNTERS and questions, answered by the class and by Plain. */
final class AgainstPlainTest {
    private static final int BAD = EventCounters.BAD, NONE = EventCounters.NONE;
    private final Random random;
    private EventCounters x = new EventCounters();
    private final List<Integer> shown = new ArrayList<>();
    private final int[] widths = {8, 8, 8, 8};
    private Plain plain;
    private Plain kept;
    private String told = "";
    private String toldThen = "";

    private AgainstPlainTest(int seed) throws PlainText.Fault {
        random = new Random(seed);
        plain = new Plain(new PlainText(""));
    }

    public static void main(String[] args) throws PlainText.Fault {
        for (int seed = 0; seed < 200; seed++) {
            AgainstPlainTest one = new AgainstPlainTest(seed);
            one.tellTexts();
            one.program();
            one.counters();
            one.slices();
            one.samples();
            one.runningOver();
            one.wired();
            one.sheets();
        }
        Due.close();
    }

    private static void due(String call, long got, long want) {
        Due.due(call, got, want);
    }

    private int below(int n) {
        return random.nextInt(n);
    }

    // ---- texts

    private void tellTexts() {
        for (int i = 0; i < 6; i++) {
            tell(broken(text(1 + below(16), 9)));
        }
        tell(text(1 + below(16), 1 + below(30)));
        x.keep();
        kept = plain;
        toldThen = told;
        boolean changed = below(4) != 0;
        if (changed) {
            tell(text(1 + below(16), 1 + below(30)));
        }
    }

    /** A new object like the one there was: none is asked more than 512 times. */
    private void anew() {
        x = new EventCounters();
        Due.tell(x, toldThen);
        x.keep();
        Due.tell(x, told);
        x.counters(plain.masks.length);
        for (int c = 0; c < plain.masks.length; c++) {
            x.mask(c, plain.masks[c]);
            x.width(c, widths[c]);
        }
    }

    private String blanks(int least) {
        return " ".repeat(below(3) == 0 ? least + below(2) : least);
    }

    private String text(int lines, int most) {
        StringBuilder text = new StringBuilder();
        int open = 0;
        int told = 0;
        while (told < lines && text.length() < 260) {
            int kind = below(10);
            if (kind < 2 && open < 4) {
                text.append("loop").append(blanks(0)).append(1 + below(most)).append(blanks(0)).append(';');
                open++;
            } else if (kind < 4 && open > 0) {
                text.append("end").append(blanks(0)).append(';').append(blanks(0));
                open--;
            } else {
                text.append("line").append(blanks(0)).append(1 + below(20));
                events(text);
                text.append(';').append(blanks(0));
                told++;
            }
        }
        for (; open > 0; open--) {
            text.append("end;");
        }
        return text.toString();
    }

    private void events(StringBuilder text) {
        int e = below(5);
        while (e < 8) {
            int most = below(3) == 0 ? 100 : 12;
            text.append(blanks(0)).append((char) ('a' + e)).append(blanks(0)).append(below(most));
            e += 1 + below(5);
        }
    }

    private String broken(String text) {
        StringBuilder other = new StringBuilder(text);
        String signs = "abhizlineopd;;  0159..#A" + (char) 0 + (char) 200;
        for (int i = 1 + below(3); i > 0 && other.length() > 1; i--) {
            int at = below(other.length());
            char sign = signs.charAt(below(signs.length()));
            switch (below(4)) {
                case 0:
                    other.setCharAt(at, sign);
                    break;
                case 1:
                    other.insert(at, sign);
                    break;
                case 2:
                    other.deleteCharAt(at);
                    break;
                default:
                    other.setLength(at);
                    break;
            }
        }
        return other.substring(0, Math.min(320, other.length()));
    }

    private void tell(String text) {
        int want;
        int fault = 0;
        try {
            plain = new Plain(new PlainText(text));
            want = plain.lines();
            told = text;
        } catch (PlainText.Fault met) {
            want = -10 - met.place;
            fault = met.number;
        }
        due("program of " + text, Due.tell(x, text), want);
        due("fault of " + text, x.fault(), fault);
    }

    // ---- the program

    private void program() {
        due("lines", x.count(0), plain.lines());
        due("loops", x.count(5), plain.text.loops.size());
        due("steps", x.whole(0), plain.steps.size());
        due("ticks", x.whole(1), plain.ticks);
        for (int i = 0; i < plain.steps.size(); i += 1 + below(50)) {
            due("step", x.step(i), plain.steps.get(i));
        }
        for (int l = 0; l < plain.lines(); l++) {
            due("ticks of a line", x.line(l, 0), plain.text.lines.get(l).number);
            due("times of a line", x.line(l, 1), plain.times[l]);
            due("loops around a line", x.line(l, 2), plain.inside[l]);
        }
        for (int q = 0; q < plain.loopComes.length; q++) {
            due("loop", x.loop(q, 0), plain.text.loops.get(q).number);
            due("loops around a loop", x.loop(q, 1), plain.loopAround[q]);
            due("lines in a loop", x.loop(q, 2), plain.loopLines[q]);
            due("loop come to", x.loop(q, 3), plain.loopComes[q]);
            due("steps in a loop", x.loop(q, 4), plain.loopSteps[q]);
        }
        for (int e = 0; e < 8; e++) {
            event(e);
        }
    }

    private void event(int e) {
        anew();
        int total = plain.total(e);
        due("whole", x.whole(10 + e), total);
        for (int l = NONE; l < plain.lines(); l++) {
            if (l >= 0) {
                due("event of a line", x.line(l, 10 + e), plain.each(l, e));
            }
            int f = below(8);
            if (l >= 0 || l == NONE) {
                BigInteger above = BigInteger.valueOf(l == NONE ? total : plain.each(l, e));
                BigInteger under = BigInteger.valueOf(l == NONE ? plain.total(f) : plain.each(l, f));
                boolean none = under.signum() == 0;
                for (int what = 0; what < 2; what++) {
                    due("ratio", x.ratio(l, e, f, what), none ? NONE : Plain.lowest(above, under)[what].longValue());
                }
            }
        }
        int share = 1 + below(100);
        int[] hot = plain.hot(e, share);
        due("hot", x.hot(e, share, 0), total == 0 ? NONE : hot[0]);
        due("hot lines", x.hot(e, share, 1), total == 0 ? NONE : hot[1]);
        for (int q = 0; q < plain.loopComes.length; q++) {
            int want = below(2) == 0 ? below(1000000) : below(2 * total + 2);
            due("went", x.went(q, e, want), plain.went(q, e, want));
            due("went as it is", x.went(q, e, Math.min(999999, total)), plain.went(q, e, Math.min(999999, total)));
        }
        beside(e);
    }

    private void beside(int e) {
        int more = 0;
        int less = 0;
        int most = 0;
        int farthest = NONE;
        for (int l = 0; l < 16; l++) {
            int off = plain.made(l, e) - kept.made(l, e);
            more |= off > 0 ? 1 << l : 0;
            less |= off < 0 ? 1 << l : 0;
            if (Math.abs(off) > most) {
                most = Math.abs(off);
                farthest = l;
            }
        }
        int[] want = {plain.total(e), kept.total(e), more, less, farthest};
        for (int what = 0; what < 5; what++) {
            due("beside " + what, x.beside(e, what), want[what]);
        }
    }

    // ---- counters

    private void counters() {
        anew();
        if (below(4) != 0) {
            int k = 1 + below(4);
            due("counters", x.counters(k), plain.masks.length);
            plain.masks = new int[k];
            for (int c = 0; c < k; c++) {
                plain.masks[c] = below(3) == 0 ? 255 : below(256) | below(256);
                x.mask(c, plain.masks[c]);
                widths[c] = 2 + below(7 + below(9));
                due("width", x.width(c, widths[c]), 8);
            }
        }
        for (int i = 0; i < 8; i++) {
            int events = below(256) & (below(2) == 0 ? 255 : below(256));
            int[] way = plain.way(events);
            due("together", x.together(events), way == null ? 0 : 1);
            for (int e = 0; e < 8; e++) {
                int there = way == null ? NONE : way[e];
                due("goes", x.goes(events, e), (events >> e & 1) == 0 ? BAD : there);
            }
            List<Integer> rounds = plain.rounds(events);
            due("rounds", x.rounds(events, 0), rounds == null ? NONE : rounds.size());
            for (int r = 0; rounds != null && r < 8; r++) {
                due("round", x.rounds(events, 10 + r), r < rounds.size() ? rounds.get(r) : BAD);
            }
        }
    }

    private void slices() {
        anew();
        for (int i = 0; i < 6; i++) {
            int events = 1 + below(255);
            List<Integer> rounds = plain.rounds(events);
            int t = 1 + below(below(2) == 0 ? 999 : 60);
            int u = Math.min(999, t + below(20));
            for (int e = 0; e < 8; e++) {
                if ((events >> e & 1) == 0) {
                    due("sliced, not of the set", x.sliced(events, t, e, 0), BAD);
                    continue;
                }
                sliced(rounds, events, t, e);
                due("finest", x.finest(events, t, u, e), rounds == null ? NONE : plain.finest(rounds, t, u, e));
            }
        }
    }

    private void sliced(List<Integer> rounds, int events, int t, int e) {
        int[] had = rounds == null ? new int[] {NONE, NONE} : plain.sliced(rounds, t, e);
        due("sliced", x.sliced(events, t, e, 0), had[0]);
        due("sliced ticks", x.sliced(events, t, e, 1), had[1]);
        BigInteger[] scaled = rounds == null ? null : plain.scaled(rounds, t, e);
        for (int what = 0; what < 4; what++) {
            long want = scaled == null ? -1000000000004L : scaled[what].longValueExact();
            due("scaled " + what, x.scaled(events, t, e, what), want);
        }
    }

    // ---- samples

    private void samples() {
        anew();
        for (int i = 0; i < 12; i++) {
            int e = below(8);
            int p = 1 + below(below(2) == 0 ? 30 : 1 + below(9999));
            int b = below(p);
            int k = below(2) == 0 ? 0 : below(10);
            samplesOf(e, p, b, k);
            int[] beats = plain.beats(e, p, b);
            due("beats", x.beats(e, p, b, 0), beats[0]);
            due("beats, never", x.beats(e, p, b, 1), makers(e) & ~beats[0]);
            due("beats, times", x.beats(e, p, b, 2), beats[1]);
            int q = Math.min(9999, p + below(20));
            due("truest", x.truest(e, p, q, k), plain.truest(e, p, q, k));
        }
    }

    private int makers(int e) {
        int bits = 0;
        for (int l = 0; l < plain.lines(); l++) {
            bits |= plain.each(l, e) > 0 ? 1 << l : 0;
        }
        return bits;
    }

    private void samplesOf(int e, int p, int b, int k) {
        int[] shows = plain.samples(e, p, b, k);
        int all = 0;
        int bits = 0;
        int most = NONE;
        for (int l = 0; l < 16; l++) {
            due("shows", x.shows(e, p, b, k, l), l < plain.lines() ? shows[l] : BAD);
            all += shows[l];
            bits |= shows[l] > 0 ? 1 << l : 0;
            if (shows[l] > (most == NONE ? 0 : shows[most])) {
                most = l;
            }
        }
        int[] want = {all + shows[16], shows[16], bits, makers(e) & ~bits, bits & ~makers(e), most};
        for (int what = 0; what < 6; what++) {
            due("samples " + what, x.samples(e, p, b, k, what), want[what]);
        }
        BigInteger[] far = plain.far(e, p, b, k);
        due("far", x.far(e, p, b, k, 0), far == null ? NONE : far[0].longValueExact());
        due("far by", x.far(e, p, b, k, 1), far == null ? NONE : far[1].longValueExact());
    }

    private void runningOver() {
        anew();
        for (int c = 0; c < plain.masks.length; c++) {
            for (int e = 0; e < 8; e++) {
                boolean can = (plain.masks[c] >> e & 1) != 0;
                int v = below(1 << widths[c]);
                int t = 1 + below(below(2) == 0 ? 999 : 60);
                int[] over = can ? plain.over(e, widths[c], v) : new int[] {BAD, BAD};
                due("over", x.over(c, e, v, 0), over[0]);
                due("over, how often", x.over(c, e, v, 1), over[1]);
                int[] looked = can ? plain.looked(e, widths[c], t) : new int[] {BAD, BAD, BAD};
                for (int what = 0; what < 3; what++) {
                    due("looked " + what, x.looked(c, e, t, what), looked[what]);
                }
                if (below(3) == 0) {
                    due("seldom", x.seldom(c, e), can ? plain.seldom(e, widths[c]) : BAD);
                }
            }
        }
    }

    // ---- wired wrong, sheets

    private void wired() {
        anew();
        int c = below(plain.masks.length);
        int e = below(8);
        int other = below(8);
        int number = Math.min(999999, plain.total(other) + (below(2) == 0 ? 0 : plain.total(below(8))));
        for (int i = 1 + below(3); i > 0; i--) {
            shown.add(below(6) == 0 ? number + 1 : number);
            x.run(c, e, shown.get(shown.size() - 1));
            x.run(c, (e + 1) % 8, below(100));
        }
        List<Integer> guesses = plain.guesses(shown);
        due("wired", x.wired(c, e, 0), guesses.size());
        for (int i = 0; i < 37; i++) {
            due("guess", x.wired(c, e, 10 + i), i < guesses.size() ? guesses.get(i) : BAD);
        }
        due("wired, none", x.wired(c, (e + 2) % 8, 0), NONE);
    }

    private void sheets() {
        anew();
        for (int i = 0; i < 5; i++) {
            int k = below(4);
            int lane = below(3);
            int[] cells = new int[below(41)];
            x.sheet(k, lane, cells.length);
            int first = below(4) == 0 ? below(60) - 10 : below(6);
            int e = below(8);
            for (int j = 0; j < cells.length; j++) {
                int made = j < first ? 0 : plain.made(Math.min(15, j - first), e);
                int v = below(3) == 0 ? random.nextInt(1 << 20) - (below(20) == 0 ? 1 << 20 : 0) : made;
                x.lay(k, j, v);
                cells[j] = lane == 0 ? (byte) v : lane == 1 ? (short) v : v;
            }
            said(k, lane, cells, first, e);
        }
    }

    private void said(int k, int lane, int[] cells, int first, int e) {
        int[] want = {0, NONE, 0, 0};
        for (int l = plain.lines() - 1; l >= 0; l--) {
            int i = first + l;
            if (i < 0 || i >= cells.length) {
                want = new int[] {-12, -12, -12, -12};
            } else if (cells[i] < 0 || cells[i] > 999999) {
                want = new int[] {-20 - l, -20 - l, -20 - l, -20 - l};
            } else if (want[0] >= 0) {
                int off = cells[i] - plain.made(l, e);
                want[0] += off == 0 ? 1 : 0;
                want[1] = off == 0 ? want[1] : l;
                want[2] += Math.max(0, off);
                want[3] += Math.max(0, -off);
            }
        }
        for (int what = 0; what < 4; what++) {
            due("said " + what, x.said(k, lane, first, e, what), want[what]);
        }
        due("said as of another lane", x.said(k, (lane + 1) % 3, first, e, 0), -13);
    }
}
