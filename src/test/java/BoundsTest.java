/**
 * "the bounds of every number": for each number of each call the last one that is taken and the first one that is
 * not, on either side. Each number is gone through from -40 to 320, at the bounds and at the ends of int.
 */
final class BoundsTest {
    private static final int BAD = EventCounters.BAD, NONE = EventCounters.NONE;
    private static final int LEAST = Integer.MIN_VALUE, GREATEST = Integer.MAX_VALUE;
    private static final long BAD_SCALED = -1000000000000L;

    // Three LINES, two LOOPS, one in the other; 13 STEPS, 25 TICKS; all EVENTS are made.
    private static final String TEXT = "line 1 a7 b6 c5 d4 e3 f2 g1 h9; loop 3; line 2 a1; loop 3; line 2 b1; end; end;";
    private static final int LINES = 3, LOOPS = 2, STEPS = 13;

    private BoundsTest() {
    }

    private interface Call {
        long ask(EventCounters x, int v);
    }

    public static void main(String[] args) {
        ofTheTape();
        ofLinesAndLoops();
        ofEventsAndLines();
        ofCounters();
        ofSets();
        ofSlices();
        ofSamples();
        ofPeriods();
        ofRunningOver();
        ofRuns();
        ofSheets();
        ofCount();
        Due.close();
    }

    private static EventCounters rich() {
        return Due.with(TEXT);
    }

    private static boolean isWithin(int v, int[] bounds) {
        for (int i = 0; i + 1 < bounds.length; i += 2) {
            if (v >= bounds[i] && v <= bounds[i + 1]) {
                return true;
            }
        }
        return false;
    }

    private static void one(String name, long bad, Call call, int v, int[] bounds) {
        // A new object each: a number that is taken may change something.
        long answer = call.ask(rich(), v);
        if (isWithin(v, bounds)) {
            Due.due(name + " takes " + v + " (it answered " + answer + ")", answer == bad ? 1 : 0, 0);
        } else {
            Due.due(name + " does not take " + v, answer, bad);
        }
    }

    /** Pairs of the least and the greatest number that are taken. */
    private static void takes(String name, long bad, Call call, int... bounds) {
        for (int v = -40; v <= 320; v++) {
            one(name, bad, call, v, bounds);
        }
        for (int bound : bounds) {
            for (int v = bound - 1; v <= bound + 1; v++) {
                one(name, bad, call, v, bounds);
            }
        }
        int[] ends = {LEAST, LEAST + 1, LEAST + 8, LEAST + 10, LEAST + 20, GREATEST - 1, GREATEST, 1 << 16, 1 << 30};
        for (int v : ends) {
            one(name, bad, call, v, bounds);
        }
    }

    private static void takes(String name, Call call, int... bounds) {
        takes(name, BAD, call, bounds);
    }

    /** Promise 3: "BAD (n above that, too)". */
    private static void ofTheTape() {
        takes("end n of none", (x, v) -> x.end(v), 0, 0);
        takes("end n of 8", (x, v) -> {
            x.feed(0);
            return x.end(v);
        }, 0, 8);
        takes("end n of 320", (x, v) -> {
            for (int i = 0; i < 40; i++) {
                x.feed(0);
            }
            return x.end(v);
        }, 0, 320);
    }

    /** Promises 6, 7, 8, 10. */
    private static void ofLinesAndLoops() {
        takes("line l", (x, v) -> x.line(v, 0), 0, LINES - 1);
        takes("line what", (x, v) -> x.line(0, v), 0, 2, 10, 17);
        takes("step i", (x, v) -> x.step(v), 0, STEPS - 1);
        takes("whole what", (x, v) -> x.whole(v), 0, 1, 10, 17);
        takes("loop q", (x, v) -> x.loop(v, 0), 0, LOOPS - 1);
        takes("loop what", (x, v) -> x.loop(0, v), 0, 4);
    }

    /** Promises 9, 11, 12, 14. */
    private static void ofEventsAndLines() {
        takes("ratio l, NONE too", (x, v) -> x.ratio(v, 0, 0, 0), NONE, NONE, 0, LINES - 1);
        takes("ratio e", (x, v) -> x.ratio(0, v, 0, 0), 0, 7);
        takes("ratio f", (x, v) -> x.ratio(0, 0, v, 0), 0, 7);
        takes("ratio e of all", (x, v) -> x.ratio(NONE, v, 0, 0), 0, 7);
        takes("ratio f of all", (x, v) -> x.ratio(NONE, 0, v, 0), 0, 7);
        takes("ratio what", (x, v) -> x.ratio(0, 0, 0, v), 0, 1);
        takes("went q", (x, v) -> x.went(v, 0, 10), 0, LOOPS - 1);
        takes("went e", (x, v) -> x.went(0, v, 10), 0, 7);
        takes("went total", (x, v) -> x.went(0, 0, v), 0, 999999);
        takes("hot e", (x, v) -> x.hot(v, 50, 0), 0, 7);
        takes("hot x", (x, v) -> x.hot(0, v, 0), 1, 100);
        takes("hot what", (x, v) -> x.hot(0, 50, v), 0, 1);
        takes("beside e", (x, v) -> x.beside(v, 0), 0, 7);
        takes("beside what", (x, v) -> x.beside(0, v), 0, 4);
    }

    /** Promises 15, 16, 17: c by each k. */
    private static void ofCounters() {
        takes("counters v", (x, v) -> x.counters(v), 1, 4);
        takes("mask events", (x, v) -> x.mask(0, v), 0, 255);
        takes("width w", (x, v) -> x.width(0, v), 2, 16);
        takes("mask c at first", (x, v) -> x.mask(v, 1), 0, 1);
        takes("width c at first", (x, v) -> x.width(v, 9), 0, 1);
        for (int k = 1; k <= 4; k++) {
            int last = k - 1;
            ofCounter("mask c", k, (x, v) -> x.mask(v, 1), 0, last);
            ofCounter("width c", k, (x, v) -> x.width(v, 9), 0, last);
            ofCounter("over c", k, (x, v) -> x.over(v, 0, 0, 0), 0, last);
            ofCounter("looked c", k, (x, v) -> x.looked(v, 0, 5, 0), 0, last);
            ofCounter("seldom c", k, (x, v) -> x.seldom(v, 0), 0, last);
            ofCounter("run c", k, (x, v) -> x.run(v, 0, 5), 0, last);
            ofCounter("wired c", k, (x, v) -> x.wired(v, 0, 0), 0, last);
            ofCounter("count what", k, (x, v) -> x.count(v), 0, 5, 10, 10 + last, 20, 20 + last);
        }
    }

    private static void ofCounter(String name, int k, Call call, int... bounds) {
        takes(name + " of " + k, (x, v) -> {
            x.counters(k);
            return call.ask(x, v);
        }, bounds);
    }

    /** Promises 18, 19, 20. */
    private static void ofSets() {
        takes("together events", (x, v) -> x.together(v), 0, 255);
        // 128 is the least set that EVENT h is one of, and it is one of all that follow.
        takes("goes events with h", (x, v) -> x.goes(v, 7), 128, 255);
        takes("goes e of a c h", (x, v) -> x.goes(0b10000101, v), 0, 0, 2, 2, 7, 7);
        takes("goes e of all", (x, v) -> x.goes(255, v), 0, 7);
        takes("rounds events", (x, v) -> x.rounds(v, 0), 0, 255);
        takes("rounds what of 0", (x, v) -> x.rounds(0, v), 0, 0);
        takes("rounds what of 1", (x, v) -> x.rounds(1, v), 0, 0, 10, 10);
        takes("rounds what of 4", (x, v) -> x.rounds(255, v), 0, 0, 10, 13);
        takes("rounds what of 8", (x, v) -> {
            x.counters(1);
            return x.rounds(255, v);
        }, 0, 0, 10, 17);
    }

    /** Promises 21, 22, 23. */
    private static void ofSlices() {
        takes("sliced events with h", (x, v) -> x.sliced(v, 5, 7, 0), 128, 255);
        takes("sliced t", (x, v) -> x.sliced(1, v, 0, 0), 1, 999);
        takes("sliced e of all", (x, v) -> x.sliced(255, 5, v, 0), 0, 7);
        takes("sliced e of b h", (x, v) -> x.sliced(0b10000010, 5, v, 0), 1, 1, 7, 7);
        takes("sliced what", (x, v) -> x.sliced(1, 5, 0, v), 0, 1);
        takes("scaled events with h", BAD_SCALED, (x, v) -> x.scaled(v, 5, 7, 0), 128, 255);
        takes("scaled t", BAD_SCALED, (x, v) -> x.scaled(1, v, 0, 0), 1, 999);
        takes("scaled e of all", BAD_SCALED, (x, v) -> x.scaled(255, 5, v, 0), 0, 7);
        takes("scaled e of b h", BAD_SCALED, (x, v) -> x.scaled(0b10000010, 5, v, 0), 1, 1, 7, 7);
        takes("scaled what", BAD_SCALED, (x, v) -> x.scaled(1, 5, 0, v), 0, 3);
        takes("finest events with h", (x, v) -> x.finest(v, 1, 9, 7), 128, 255);
        takes("finest e of all", (x, v) -> x.finest(255, 1, 9, v), 0, 7);
        takes("finest e of b h", (x, v) -> x.finest(0b10000010, 1, 9, v), 1, 1, 7, 7);
        takes("finest t up to 100", (x, v) -> x.finest(1, v, 100, 0), 1, 100);
        takes("finest t up to 999: 200 at most", (x, v) -> x.finest(1, v, 999, 0), 800, 999);
        takes("finest u from 1: 200 at most", (x, v) -> x.finest(1, 1, v, 0), 1, 200);
        takes("finest u from 500: 200 at most", (x, v) -> x.finest(1, 500, v, 0), 500, 699);
        takes("finest u from 900", (x, v) -> x.finest(1, 900, v, 0), 900, 999);
        takes("finest both", (x, v) -> x.finest(1, v, v, 0), 1, 999);
    }

    private interface Samples {
        long ask(EventCounters x, int e, int p, int b, int k);
    }

    /** Promises 24, 25, 26: p, b, k alike. */
    private static void ofSamples() {
        ofSamples("shows", (x, e, p, b, k) -> x.shows(e, p, b, k, 0));
        ofSamples("samples", (x, e, p, b, k) -> x.samples(e, p, b, k, 0));
        ofSamples("far", (x, e, p, b, k) -> x.far(e, p, b, k, 0));
        takes("shows l", (x, v) -> x.shows(0, 1, 0, 0, v), 0, LINES - 1);
        takes("samples what", (x, v) -> x.samples(0, 1, 0, 0, v), 0, 5);
        takes("far what", (x, v) -> x.far(0, 1, 0, 0, v), 0, 1);
    }

    private static void ofSamples(String name, Samples call) {
        takes(name + " e", (x, v) -> call.ask(x, v, 1, 0, 0), 0, 7);
        takes(name + " p", (x, v) -> call.ask(x, 0, v, 0, 0), 1, 9999);
        takes(name + " p above b", (x, v) -> call.ask(x, 0, v, 100, 0), 101, 9999);
        takes(name + " k", (x, v) -> call.ask(x, 0, 1, 0, v), 0, 9);
        for (int p : new int[] {1, 2, 7, 9999}) {
            takes(name + " b of " + p, (x, v) -> call.ask(x, 0, p, v, 0), 0, p - 1);
        }
    }

    /** Promises 27, 28. */
    private static void ofPeriods() {
        takes("truest e", (x, v) -> x.truest(v, 1, 9, 0), 0, 7);
        takes("truest p up to 150", (x, v) -> x.truest(0, v, 150, 0), 1, 150);
        takes("truest p up to 9999: 200 at most", (x, v) -> x.truest(0, v, 9999, 0), 9800, 9999);
        takes("truest q from 1: 200 at most", (x, v) -> x.truest(0, 1, v, 0), 1, 200);
        takes("truest q from 9700: 200 at most", (x, v) -> x.truest(0, 9700, v, 0), 9700, 9899);
        takes("truest q from 9900", (x, v) -> x.truest(0, 9900, v, 0), 9900, 9999);
        takes("truest both", (x, v) -> x.truest(0, v, v, 0), 1, 9999);
        takes("truest k", (x, v) -> x.truest(0, 1, 9, v), 0, 9);
        takes("beats e", (x, v) -> x.beats(v, 1, 0, 0), 0, 7);
        takes("beats p", (x, v) -> x.beats(0, v, 0, 0), 1, 9999);
        takes("beats what", (x, v) -> x.beats(0, 1, 0, v), 0, 2);
        for (int p : new int[] {1, 2, 7, 9999}) {
            takes("beats b of " + p, (x, v) -> x.beats(0, p, v, 0), 0, p - 1);
        }
    }

    /** Promises 29, 30, 31: v is "0 to what its WIDTH holds". */
    private static void ofRunningOver() {
        for (int w = 2; w <= 16; w++) {
            int width = w;
            takes("over v of " + w + " bits", (x, v) -> {
                x.width(1, width);
                return x.over(1, 0, v, 0);
            }, 0, (1 << w) - 1);
        }
        takes("over e", (x, v) -> x.over(0, v, 0, 0), 0, 7);
        takes("over what", (x, v) -> x.over(0, 0, 0, v), 0, 1);
        takes("looked e", (x, v) -> x.looked(0, v, 5, 0), 0, 7);
        takes("looked t", (x, v) -> x.looked(0, 0, v, 0), 1, 999);
        takes("looked what", (x, v) -> x.looked(0, 0, 5, v), 0, 2);
        takes("seldom e", (x, v) -> x.seldom(0, v), 0, 7);
        for (int set : new int[] {0b00010110, 0b10000001}) {
            ofMask("over e", set, (x, v) -> x.over(0, v, 0, 0));
            ofMask("looked e", set, (x, v) -> x.looked(0, v, 5, 0));
            ofMask("seldom e", set, (x, v) -> x.seldom(0, v));
        }
    }

    /** "BAD: also an EVENT that it can not count". */
    private static void ofMask(String name, int set, Call call) {
        int[] bounds = new int[16];
        for (int e = 0; e < 8; e++) {
            boolean counted = (set >> e & 1) != 0;
            bounds[2 * e] = counted ? e : 1;
            bounds[2 * e + 1] = counted ? e : 0;
        }
        takes(name + " of a mask " + set, (x, v) -> {
            x.mask(0, set);
            return call.ask(x, v);
        }, bounds);
    }

    /** Promises 32, 34. */
    private static void ofRuns() {
        takes("run e", (x, v) -> x.run(0, v, 5), 0, 7);
        takes("run shown", (x, v) -> x.run(0, 0, v), 0, 999999);
        takes("wired e", (x, v) -> x.wired(0, v, 0), 0, 7);
        takes("wired what of one guess", (x, v) -> {
            // Only a and b make 25 in all.
            x.run(0, 0, 25);
            return x.wired(0, 0, v);
        }, 0, 0, 10, 10);
        takes("wired what of no guess", (x, v) -> {
            x.run(0, 0, 999999);
            return x.wired(0, 0, v);
        }, 0, 0);
        takes("wired what of 36 guesses", (x, v) -> {
            x.program();
            x.run(0, 0, 0);
            return x.wired(0, 0, v);
        }, 0, 0, 10, 45);
        takes("wired what without a run", (x, v) -> x.wired(0, 0, v), 0, 0);
    }

    /** Promises 35, 36, 37. */
    private static void ofSheets() {
        takes("sheet k", (x, v) -> x.sheet(v, 0, 5), 0, 3);
        takes("sheet lane", (x, v) -> x.sheet(0, v, 5), 0, 2);
        takes("sheet n above: BAD", (x, v) -> x.sheet(0, 0, v), LEAST, 40);
        takes("sheet n below: SIZE", -14, (x, v) -> x.sheet(0, 0, v), 0, GREATEST);
        takes("lay k", (x, v) -> x.lay(v, 0, 5), 0, 3);
        for (int n : new int[] {1, 7, 40}) {
            takes("lay i of " + n, -12, (x, v) -> {
                x.sheet(2, 1, n);
                return x.lay(2, v, 5);
            }, 0, n - 1);
            takes("said f of " + n, -12, (x, v) -> {
                x.sheet(2, 1, n);
                return x.said(2, 1, v, 0, 0);
            }, 0, n - LINES);
        }
        takes("lay i of 0", -12, (x, v) -> {
            x.sheet(2, 1, 0);
            return x.lay(2, v, 5);
        });
        takes("lay i of nothing", -11, (x, v) -> x.lay(2, v, 5));
        takes("said k", (x, v) -> x.said(v, 0, 0, 0, 0), 0, 3);
        takes("said lane", (x, v) -> x.said(0, v, 0, 0, 0), 0, 2);
        takes("said e", (x, v) -> x.said(0, 0, 0, v, 0), 0, 7);
        takes("said what", (x, v) -> x.said(0, 0, 0, 0, v), 0, 3);
        takes("said another lane", -13, (x, v) -> {
            x.sheet(0, 1, 5);
            return x.said(0, v, 0, 0, 0);
        }, LEAST, -1, 1, 1, 3, GREATEST);
        takes("said f without lines", -12, (x, v) -> {
            x.program();
            x.sheet(2, 1, 0);
            return x.said(2, 1, v, 0, 0);
        }, LEAST, GREATEST);
    }

    /** Promise 38: at first there are two COUNTERS. */
    private static void ofCount() {
        takes("count what", (x, v) -> x.count(v), 0, 5, 10, 11, 20, 21);
    }
}
