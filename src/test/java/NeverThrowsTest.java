import java.util.Random;

/** Calls with numbers of every kind, in every state, answer and never throw. */
final class NeverThrowsTest {
    private static final int[] EDGES = {
        Integer.MIN_VALUE, Integer.MIN_VALUE + 1, Integer.MIN_VALUE + 9, -1000000, -21, -5, -4, -3, -2, -1, 0, 1, 2, 3,
        4, 5, 6, 7, 8, 9, 10, 11, 12, 15, 16, 17, 18, 19, 20, 21, 31, 32, 39, 40, 41, 46, 99, 100, 255, 256, 313, 320,
        999, 1000, 5999, 6000, 9999, 10000, 65535, 65536, 999999, 1000000, Integer.MAX_VALUE - 9, Integer.MAX_VALUE};
    private static final String[] TEXTS = {
        "", "line 1 a5; loop 3; line 2 b1; loop 2; line 20 a1 h99; end; end;", "line1a1b1c1d1e1f1g1h1;".repeat(14),
        "loop 60;loop 50;line 1 a99;line 20 b1;end;end;", "loop 99;loop 99;loop 99;loop 99;end;end;end;end;",
        "loop 99;loop 99;loop 99;loop 99;line1a99;end;end;end;end;", "loop1;end;".repeat(32), "loop2;".repeat(53),
        "line1;".repeat(53), "line 1 a1", "line#", "end;", ";", "0", "loop 5", "loop 5;", "line 1 a"};

    private NeverThrowsTest() {
    }

    public static void main(String[] args) {
        Random random = new Random(5);
        long sum = 0;
        for (int run = 0; run < 150; run++) {
            EventCounters x = new EventCounters();
            for (int call = 0; call < 480; call++) {
                sum += call(x, random);
            }
        }
        Due.due("all calls have answered", sum == 0 ? 0 : 1, 1);
        Due.close();
    }

    private static int any(Random random) {
        return random.nextInt(3) == 0 ? EDGES[random.nextInt(EDGES.length)] : random.nextInt(12);
    }

    private static long call(EventCounters x, Random r) {
        switch (r.nextInt(12)) {
            case 0:
                return ofTheTape(x, r);
            case 1: case 2: case 3:
                return ofTheProgram(x, r);
            case 4: case 5:
                return ofCounters(x, r);
            case 6:
                return ofSlices(x, r);
            case 7: case 8:
                return ofSamples(x, r);
            case 9:
                return ofRuns(x, r);
            default:
                return ofSheets(x, r);
        }
    }

    private static long ofTheTape(EventCounters x, Random r) {
        switch (r.nextInt(4)) {
            case 0:
                return x.feed(r.nextLong());
            case 1:
                return x.end(any(r));
            case 2:
                return x.program() + x.fault();
            default:
                x.end(0);
                return Due.tell(x, TEXTS[r.nextInt(TEXTS.length)]);
        }
    }

    private static long ofTheProgram(EventCounters x, Random r) {
        switch (r.nextInt(9)) {
            case 0:
                return x.line(any(r), any(r));
            case 1:
                return x.step(any(r));
            case 2:
                return x.whole(any(r));
            case 3:
                return x.ratio(any(r), any(r), any(r), any(r) & 1);
            case 4:
                return x.loop(any(r), any(r));
            case 5:
                return x.went(any(r), any(r), any(r));
            case 6:
                return x.hot(any(r), any(r), any(r) & 1);
            case 7:
                return x.keep();
            default:
                return x.beside(any(r), any(r));
        }
    }

    private static long ofCounters(EventCounters x, Random r) {
        switch (r.nextInt(7)) {
            case 0:
                return x.counters(any(r));
            case 1:
                return x.mask(any(r), any(r));
            case 2:
                return x.width(any(r), any(r));
            case 3:
                return x.together(any(r));
            case 4:
                return x.goes(any(r), any(r));
            case 5:
                return x.rounds(any(r), any(r));
            default:
                return x.over(any(r), any(r), any(r), any(r) & 1) + x.looked(any(r), any(r), any(r), any(r) & 3)
                    + (r.nextInt(9) == 0 ? x.seldom(any(r), any(r)) : 0);
        }
    }

    private static long ofSlices(EventCounters x, Random r) {
        switch (r.nextInt(9)) {
            case 0:
                return x.finest(any(r), any(r), any(r), any(r));
            case 1: case 2: case 3:
                return x.sliced(any(r), any(r), any(r), any(r) & 1);
            default:
                return x.scaled(any(r), any(r), any(r), any(r) & 3);
        }
    }

    private static long ofSamples(EventCounters x, Random r) {
        switch (r.nextInt(9)) {
            case 0:
                return x.truest(any(r), any(r), any(r), any(r));
            case 1: case 2:
                return x.shows(any(r), any(r), any(r), any(r), any(r));
            case 3: case 4:
                return x.samples(any(r), any(r), any(r), any(r), any(r));
            case 5: case 6:
                return x.far(any(r), any(r), any(r), any(r), any(r) & 1);
            default:
                return x.beats(any(r), any(r), any(r), any(r));
        }
    }

    private static long ofRuns(EventCounters x, Random r) {
        switch (r.nextInt(8)) {
            case 0:
                return x.forget();
            case 1: case 2: case 3:
                return x.run(any(r), any(r), any(r));
            default:
                return x.wired(any(r), any(r), any(r));
        }
    }

    private static long ofSheets(EventCounters x, Random r) {
        switch (r.nextInt(6)) {
            case 0:
                return x.sheet(any(r), any(r), any(r));
            case 1: case 2:
                return x.lay(any(r), any(r), any(r));
            case 3: case 4:
                return x.said(any(r), any(r), any(r), any(r), any(r));
            default:
                return x.count(any(r));
        }
    }
}
