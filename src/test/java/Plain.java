import java.math.BigInteger;
import java.util.ArrayList;
import java.util.List;
import java.util.TreeSet;

/** A second way to reckon what THE PROGRAM and COUNTERS tell: slow, step by step, all ways tried. */
final class Plain {
    static final int NONE = -4;
    final PlainText text;
    /** LINES of STEPS, TICKS at which they begin, by going through the text. */
    final List<Integer> steps = new ArrayList<>();
    final List<Integer> begins = new ArrayList<>();
    final int[] times = new int[16];
    final int[] inside = new int[16];
    final int[] loopComes;
    final int[] loopSteps;
    final int[] loopLines;
    final int[] loopAround;
    int ticks = 0;
    int[] masks = {255, 255};

    Plain(PlainText text) {
        this.text = text;
        loopComes = new int[text.loops.size()];
        loopSteps = new int[text.loops.size()];
        loopLines = new int[text.loops.size()];
        loopAround = new int[text.loops.size()];
        shape(text.items, new ArrayList<>());
        go(text.items, new ArrayList<>());
    }

    private void shape(List<PlainText.Item> items, List<PlainText.Item> around) {
        for (PlainText.Item item : items) {
            if (item.isLoop) {
                loopAround[item.index] = around.size();
                // Done by product: a LOOP without LINES would be gone through too often.
                int comes = 1;
                for (PlainText.Item outer : around) {
                    comes *= outer.number;
                }
                loopComes[item.index] = comes;
                List<PlainText.Item> more = new ArrayList<>(around);
                more.add(item);
                shape(item.items, more);
            } else {
                inside[item.index] = around.size();
                for (PlainText.Item outer : around) {
                    loopLines[outer.index] |= 1 << item.index;
                }
            }
        }
    }

    private void go(List<PlainText.Item> items, List<PlainText.Item> around) {
        for (PlainText.Item item : items) {
            if (!item.isLoop) {
                steps.add(item.index);
                begins.add(ticks);
                ticks += item.number;
                times[item.index]++;
                for (PlainText.Item outer : around) {
                    loopSteps[outer.index]++;
                }
            } else if (loopLines[item.index] != 0) {
                List<PlainText.Item> more = new ArrayList<>(around);
                more.add(item);
                for (int i = 0; i < item.number; i++) {
                    go(item.items, more);
                }
            }
        }
    }

    int lines() {
        return text.lines.size();
    }

    int each(int l, int e) {
        return text.lines.get(l).events[e];
    }

    int made(int l, int e) {
        return l < lines() ? times[l] * each(l, e) : 0;
    }

    int total(int e) {
        int sum = 0;
        for (int l : steps) {
            sum += each(l, e);
        }
        return sum;
    }

    /** Tells a LOOP from 0 on and reckons the whole anew, without going through it. */
    int went(int q, int e, int total) {
        for (int n = 0; n <= 9999; n++) {
            if (told(text.items, q, n, e) == total) {
                return n;
            }
        }
        return NONE;
    }

    private static long told(List<PlainText.Item> items, int q, int n, int e) {
        long sum = 0;
        for (PlainText.Item item : items) {
            long often = item.isLoop ? item.index == q ? n : item.number : 1;
            sum += item.isLoop ? often * told(item.items, q, n, e) : item.events[e];
        }
        return sum;
    }

    /** All sets of LINES are tried: how many there are, and these. */
    int[] hot(int e, int x) {
        int[] best = null;
        for (int set = 1; set < 1 << lines(); set++) {
            long sum = 0;
            for (int l = 0; l < lines(); l++) {
                sum += (set >> l & 1) * made(l, e);
            }
            int size = Integer.bitCount(set);
            if (sum * 100 >= (long) x * total(e) && (best == null || size < best[0])) {
                best = new int[] {size, set};
            }
        }
        return best;
    }

    /** All ways for a set, COUNTERS for EVENTS from the least on, in order; null: it does not go together. */
    int[] way(int events) {
        List<Integer> list = new ArrayList<>();
        for (int e = 0; e < 8; e++) {
            if ((events >> e & 1) != 0) {
                list.add(e);
            }
        }
        int[] way = new int[8];
        return place(list, 0, way, 0) ? way : null;
    }

    private boolean place(List<Integer> list, int i, int[] way, int used) {
        if (i == list.size()) {
            return true;
        }
        for (int c = 0; c < masks.length; c++) {
            if ((used >> c & 1) == 0 && (masks[c] >> list.get(i) & 1) != 0) {
                way[list.get(i)] = c;
                if (place(list, i + 1, way, used | 1 << c)) {
                    return true;
                }
            }
        }
        return false;
    }

    /** All ways to divide a set, the fewest ROUNDS, then the least of all lists; null: there is none. */
    List<Integer> rounds(int events) {
        if (events == 0) {
            return new ArrayList<>();
        }
        int least = Integer.lowestOneBit(events);
        List<Integer> best = null;
        for (int set = 1; set <= events; set++) {
            if ((set & ~events) == 0 && (set & least) != 0 && way(set) != null) {
                List<Integer> rest = rounds(events ^ set);
                if (rest != null && (best == null || rest.size() + 1 < best.size())) {
                    rest.add(0, set);
                    best = rest;
                }
            }
        }
        return best;
    }

    /** COUNTED and TICKS, tick by tick. */
    int[] sliced(List<Integer> rounds, int t, int e) {
        int[] answer = new int[2];
        int slice = 0;
        int left = t;
        int i = 0;
        for (int tick = 0; tick < ticks; tick++) {
            if (left == 0) {
                slice++;
                left = t;
            }
            left--;
            if (i < steps.size() && begins.get(i) == tick) {
                if ((rounds.get(slice % rounds.size()) >> e & 1) != 0) {
                    answer[0] += each(steps.get(i), e);
                    answer[1] += text.lines.get(steps.get(i)).number;
                }
                i++;
            }
        }
        return answer;
    }

    /** SCALED and how far that is; null: no TICKS. */
    BigInteger[] scaled(List<Integer> rounds, int t, int e) {
        int[] had = sliced(rounds, t, e);
        if (had[1] == 0) {
            return null;
        }
        BigInteger below = BigInteger.valueOf(had[1]);
        BigInteger above = BigInteger.valueOf(had[0]).multiply(BigInteger.valueOf(ticks));
        BigInteger off = above.subtract(below.multiply(BigInteger.valueOf(total(e))));
        return new BigInteger[] {
            lowest(above, below)[0], lowest(above, below)[1], lowest(off, below)[0], lowest(off, below)[1]};
    }

    static BigInteger[] lowest(BigInteger above, BigInteger below) {
        BigInteger common = above.gcd(below);
        return new BigInteger[] {above.divide(common), below.divide(common)};
    }

    int finest(List<Integer> rounds, int t, int u, int e) {
        int best = NONE;
        BigInteger[] bestOff = null;
        for (int s = t; s <= u; s++) {
            BigInteger[] one = scaled(rounds, s, e);
            if (one != null && (best == NONE || less(one[2].abs(), one[3], bestOff[0], bestOff[1]))) {
                best = s;
                bestOff = new BigInteger[] {one[2].abs(), one[3]};
            }
        }
        return best;
    }

    private static boolean less(BigInteger a, BigInteger b, BigInteger c, BigInteger d) {
        return a.multiply(d).compareTo(c.multiply(b)) < 0;
    }

    /** SAMPLES by LINES; behind them what is LOST. */
    int[] samples(int e, int p, int b, int k) {
        int[] shown = new int[17];
        int sum = b;
        for (int i = 0; i < steps.size(); i++) {
            sum += each(steps.get(i), e);
            while (sum >= p) {
                sum -= p;
                shown[i + k < steps.size() ? steps.get(i + k) : 16]++;
            }
        }
        return shown;
    }

    BigInteger[] far(int e, int p, int b, int k) {
        int[] shown = samples(e, p, b, k);
        BigInteger all = BigInteger.ZERO;
        for (int l = 0; l < 16; l++) {
            all = all.add(BigInteger.valueOf(shown[l]));
        }
        if (all.signum() == 0) {
            return null;
        }
        BigInteger total = BigInteger.valueOf(total(e));
        BigInteger above = BigInteger.ZERO;
        BigInteger below = BigInteger.ONE;
        for (int l = 0; l < 16; l++) {
            BigInteger off = BigInteger.valueOf(shown[l]).multiply(total)
                .subtract(BigInteger.valueOf(made(l, e)).multiply(all)).abs();
            BigInteger under = all.multiply(total);
            BigInteger[] sum = lowest(above.multiply(under).add(off.multiply(below)), below.multiply(under));
            above = sum[0];
            below = sum[1];
        }
        return new BigInteger[] {above, below};
    }

    int truest(int e, int p, int q, int k) {
        int best = NONE;
        BigInteger[] bestFar = null;
        for (int period = p; period <= q; period++) {
            BigInteger[] one = far(e, period, 0, k);
            if (one != null && (best == NONE || less(one[0], one[1], bestFar[0], bestFar[1]))) {
                best = period;
                bestFar = one;
            }
        }
        return best;
    }

    /** Goes round until the beginning comes again: LINES ever shown, how many times. */
    int[] beats(int e, int p, int b) {
        if (total(e) == 0) {
            return new int[2];
        }
        int shown = 0;
        int rounds = 0;
        int sum = b;
        do {
            for (int l : steps) {
                sum += each(l, e);
                if (sum >= p) {
                    sum %= p;
                    shown |= 1 << l;
                }
            }
            rounds++;
        } while (sum != b);
        return new int[] {shown, rounds};
    }

    /** Counts one by one: what it shows, how often it ran over. */
    int[] over(int e, int width, int v) {
        int shows = v;
        int often = 0;
        for (int i = total(e); i > 0; i--) {
            shows++;
            if (shows == 1 << width) {
                shows = 0;
                often++;
            }
        }
        return new int[] {shows, often};
    }

    /** TOLD, LOST, how often, with a COUNTER that goes on and is read. */
    int[] looked(int e, int width, int t) {
        int top = 1 << width;
        int counter = 0;
        int before = 0;
        int told = 0;
        int often = 0;
        for (int i = 0; i <= steps.size(); i++) {
            boolean end = i == steps.size();
            if (end || i > 0 && begins.get(i) / t != begins.get(i - 1) / t) {
                told += (counter - before + top) % top;
                before = counter;
                often++;
            }
            if (!end) {
                counter = (counter + each(steps.get(i), e)) % top;
            }
        }
        return new int[] {told, total(e) - told, often};
    }

    int seldom(int e, int width) {
        for (int t = 999; t > 0; t--) {
            if (looked(e, width, t)[1] == 0) {
                return t;
            }
        }
        return NONE;
    }

    /** GUESSES for what all RUNS showed. */
    List<Integer> guesses(List<Integer> shown) {
        TreeSet<Integer> one = new TreeSet<>();
        TreeSet<Integer> two = new TreeSet<>();
        for (int a = 0; a < 8; a++) {
            for (int b = a; b < 8; b++) {
                int number = a == b ? total(a) : total(a) + total(b);
                boolean all = true;
                for (int s : shown) {
                    all &= s == number;
                }
                if (all) {
                    (a == b ? one : two).add(1 << a | 1 << b);
                }
            }
        }
        List<Integer> list = new ArrayList<>(one);
        list.addAll(two);
        return list;
    }
}
