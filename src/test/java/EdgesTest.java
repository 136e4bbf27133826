/** Terms and promises 9 to 38: what is empty, what is full, where a number or a counter begins anew. */
final class EdgesTest {
    private static final int BAD = EventCounters.BAD, FULL = EventCounters.FULL, NONE = EventCounters.NONE;
    private static final long BAD_SCALED = -1000000000000L, NONE_SCALED = -1000000000004L;

    private EdgesTest() {
    }

    public static void main(String[] args) {
        theEmptyProgram();
        badAheadOfAllElse();
        fractions();
        went();
        hot();
        kept();
        counters();
        masksOfNothingAndOfAll();
        goesTogether();
        rounds();
        slicesBeginAnew();
        roundsBeginAnew();
        noTicks();
        finest();
        sumsBeginAnew();
        skids();
        sharesAndFar();
        truest();
        roundAndRound();
        runsOverByWidths();
        lookedByWidths();
        lookedAtEdges();
        seldom();
        runs();
        guesses();
        sheetsOfEachSize();
        lanesBeginAnew();
        said();
        count();
        theLastCall();
        Due.close();
    }

    private static void due(String call, long got, long want) {
        Due.due(call, got, want);
    }

    private static EventCounters masked(String text, int... masks) {
        EventCounters x = Due.with(text);
        x.counters(masks.length);
        for (int c = 0; c < masks.length; c++) {
            x.mask(c, masks[c]);
        }
        return x;
    }

    // ---- what is empty

    /** Promise 1: "THE PROGRAM is empty; no RUNS; SHEETS of nothing"; the same by an empty text. */
    private static void theEmptyProgram() {
        EventCounters told = Due.with("loop 3; line 2 a4 b1; end;");
        told.program();
        for (EventCounters x : new EventCounters[] {new EventCounters(), told}) {
            due("line", x.line(0, 0), BAD);
            due("step", x.step(0), BAD);
            for (int what = 0; what < 18; what++) {
                due("whole " + what, x.whole(what), what < 2 || what > 9 ? 0 : BAD);
            }
            due("ratio of a line", x.ratio(0, 0, 0, 0), BAD);
            due("ratio of all", x.ratio(NONE, 0, 0, 0), NONE);
            due("loop", x.loop(0, 0), BAD);
            due("went", x.went(0, 0, 0), BAD);
            due("hot", x.hot(0, 100, 0), NONE);
            for (int what = 0; what < 5; what++) {
                due("beside " + what, x.beside(0, what), what == 4 ? NONE : 0);
            }
            due("keep", x.keep(), 0);
            due("sliced", x.sliced(1, 1, 0, 0), 0);
            due("its ticks", x.sliced(1, 1, 0, 1), 0);
            due("scaled", x.scaled(1, 1, 0, 0), NONE_SCALED);
            due("finest", x.finest(1, 1, 200, 0), NONE);
            due("shows", x.shows(0, 1, 0, 0, 0), BAD);
            for (int what = 0; what < 6; what++) {
                due("samples " + what, x.samples(0, 1, 0, 9, what), what == 5 ? NONE : 0);
            }
            due("far", x.far(0, 1, 0, 0, 0), NONE);
            due("truest", x.truest(0, 1, 200, 0), NONE);
            for (int what = 0; what < 3; what++) {
                due("beats " + what, x.beats(0, 9999, 9998, what), 0);
            }
            due("over", x.over(0, 0, 255, 0), 255);
            due("ran over", x.over(0, 0, 255, 1), 0);
            due("told", x.looked(0, 0, 1, 0), 0);
            due("lost", x.looked(0, 0, 1, 1), 0);
            due("looked at the end", x.looked(0, 0, 1, 2), 1);
            due("seldom", x.seldom(0, 0), 999);
            due("wired", x.wired(0, 0, 0), NONE);
            due("said of nothing", x.said(0, 0, 0, 0, 0), -11);
            due("forget", x.forget(), 0);
        }
    }

    // ---- "the first that fits"

    private static void badAheadOfAllElse() {
        EventCounters x = masked("line 1 a1;", 0b0001);
        due("ratio: NONE, but what", x.ratio(0, 0, 1, 2), BAD);
        due("ratio: NONE, but e", x.ratio(0, 8, 1, 0), BAD);
        due("went: no such loop", x.went(0, 0, 1), BAD);
        due("hot: NONE, but what", x.hot(1, 50, 2), BAD);
        due("hot: NONE, but x", x.hot(1, 0, 0), BAD);
        due("goes: not together, but not one of the set", x.goes(0b0110, 0), BAD);
        due("goes: not together", x.goes(0b0110, 1), NONE);
        due("rounds: can not be counted, but what 1", x.rounds(0b0110, 1), BAD);
        due("rounds: can not be counted, but what 9", x.rounds(0b0110, 9), BAD);
        due("rounds: can not be counted", x.rounds(0b0110, 0), NONE);
        due("sliced: can not be, but t", x.sliced(0b0010, 0, 1, 0), BAD);
        due("sliced: can not be, but not one of the set", x.sliced(0b0010, 5, 0, 0), BAD);
        due("sliced: can not be, but what", x.sliced(0b0010, 5, 1, 2), BAD);
        due("sliced: can not be", x.sliced(0b0010, 5, 1, 0), NONE);
        due("scaled: can not be, but t", x.scaled(0b0010, 1000, 1, 0), BAD_SCALED);
        due("scaled: can not be, but not one of the set", x.scaled(0b0010, 5, 0, 0), BAD_SCALED);
        due("scaled: can not be, but what", x.scaled(0b0010, 5, 1, 4), BAD_SCALED);
        due("scaled: can not be", x.scaled(0b0010, 5, 1, 0), NONE_SCALED);
        due("finest: can not be, but 201", x.finest(0b0010, 1, 201, 1), BAD);
        due("finest: can not be", x.finest(0b0010, 1, 200, 1), NONE);
        due("far: nothing is shown, but what", x.far(1, 1, 0, 0, 2), BAD);
        due("far: nothing is shown, but b", x.far(1, 1, 1, 0, 0), BAD);
        due("truest: none shows something, but 201", x.truest(1, 1, 201, 0), BAD);
        due("beats: never made, but b", x.beats(1, 1, 1, 2), BAD);
        due("beats: never made, but what", x.beats(1, 1, 0, 3), BAD);
        due("seldom: it can not be counted", x.seldom(0, 1), BAD);
        due("wired: no run, but what", x.wired(0, 0, 9), BAD);
        due("sheet: size, but k", x.sheet(4, 0, -1), BAD);
        due("sheet: size, but lane", x.sheet(0, 3, -1), BAD);
        due("lay: null, but k", x.lay(4, -1, 0), BAD);
        due("lay: null ahead of index", x.lay(0, -1, 0), -11);
        due("said: null, but lane", x.said(0, 3, 0, 0, 0), BAD);
        due("said: null ahead of index", x.said(0, 0, -1, 0, 0), -11);
        x.sheet(0, 1, 1);
        due("said: cast ahead of index", x.said(0, 0, -1, 0, 0), -13);
        for (int i = 0; i < 12; i++) {
            x.run(0, 0, 1);
        }
        due("run: full, but c", x.run(1, 0, 1), BAD);
        due("run: full, but e", x.run(0, 8, 1), BAD);
        due("run: full, but shown", x.run(0, 0, 1000000), BAD);
        due("run: full", x.run(0, 0, 1), FULL);
    }

    // ---- the program

    /** "Fractions are in lowest terms, the denominator above 0 (0 is 0 by 1)." */
    private static void fractions() {
        EventCounters x = Due.with("line 1 a0 b99; line 1 a98 b49; line 1 a1 b1; line 1 a97 b89;");
        int[][] want = {{0, 1}, {2, 1}, {1, 1}, {97, 89}};
        for (int l = 0; l < 4; l++) {
            due("above of " + l, x.ratio(l, 0, 1, 0), want[l][0]);
            due("below of " + l, x.ratio(l, 0, 1, 1), want[l][1]);
        }
        due("0 of all", x.ratio(NONE, 7, 1, 0), 0);
        due("by 1", x.ratio(NONE, 7, 1, 1), 1);
        due("by none", x.ratio(0, 1, 0, 0), NONE);
        EventCounters big = Due.with("loop 60; loop 99; line 20 a99 b1; end; end; line 1 b1;");
        due("588060 by 5941", big.ratio(NONE, 0, 1, 0), 588060);
        due("588060 by 5941", big.ratio(NONE, 0, 1, 1), 5941);
        // ROUND 1 counts nothing in its TICKS: 0 by 1, and what is missing is below 0 by 1.
        EventCounters y = masked("line 5 b4; line 5;", 255);
        due("0 scaled", y.scaled(0b11, 5, 1, 0), 0);
        due("0 by 1", y.scaled(0b11, 5, 1, 1), 1);
        due("4 less", y.scaled(0b11, 5, 1, 2), -4);
        due("by 1, which is above 0", y.scaled(0b11, 5, 1, 3), 1);
        due("far 0", x.far(0, 1, 0, 0, 0), 0);
        due("far 0 by 1", x.far(0, 1, 0, 0, 1), 1);
    }

    /** Promise 11: "(0 to 9999)", "a total (0 to 999999)", "of several the least". */
    private static void went() {
        EventCounters x = Due.with("line 1 b7; loop 5; line 1 a1 b1 c90; end;");
        due("0", x.went(0, 0, 0), 0);
        due("1", x.went(0, 0, 1), 1);
        due("9999", x.went(0, 0, 9999), 9999);
        due("10000", x.went(0, 0, 10000), NONE);
        due("999999", x.went(0, 0, 999999), NONE);
        due("by what is around it", x.went(0, 1, 7), 0);
        due("less than what is around it", x.went(0, 1, 6), NONE);
        due("9999 and what is around it", x.went(0, 1, 10006), 9999);
        due("10000 and what is around it", x.went(0, 1, 10007), NONE);
        due("899910", x.went(0, 2, 899910), 9999);
        due("900000", x.went(0, 2, 900000), NONE);
        due("between two", x.went(0, 2, 899909), NONE);
        due("it makes none: the least", x.went(0, 3, 0), 0);
        due("it makes none", x.went(0, 3, 1), NONE);
        // As often as a LOOP around it, and LOOPS within it.
        EventCounters y = Due.with("loop 99; loop 1; line 1 a1; loop 2; line 1 a3; end; end; line 1 a1; end;");
        due("as it is", y.went(1, 0, 99 * 8), 1);
        due("never", y.went(1, 0, 99), 0);
        due("as often as a total can tell", y.went(1, 0, 99 + 693 * 1442), 1442);
        due("one more often is above a total", y.went(1, 0, 99 + 693 * 1443), BAD);
        due("one above it", y.went(1, 0, 100 + 693 * 1442), NONE);
        due("the one around it", y.went(0, 0, 8 * 9999), 9999);
        due("the one within it", y.went(2, 0, 99 * 2), 0);
    }

    /** Promise 12: "x of 100 (1 to 100) or more". */
    private static void hot() {
        EventCounters x = Due.with("line 1 a1; loop 99; line 1 a1; end;");
        for (int share = 1; share <= 100; share++) {
            due("how many for " + share, x.hot(0, share, 0), share == 100 ? 2 : 1);
            due("which for " + share, x.hot(0, share, 1), share == 1 ? 1 : share == 100 ? 3 : 2);
        }
        EventCounters alike = Due.with("line1a5;".repeat(16));
        for (int share = 1; share <= 100; share++) {
            int n = (16 * share + 99) / 100;
            due("of sixteen alike for " + share, alike.hot(0, share, 0), n);
            due("the least bits for " + share, alike.hot(0, share, 1), (1 << n) - 1);
        }
        // 60 and 20 are two LINES; 60, 10 and 10 are three.
        EventCounters two = Due.with("line 1 a10; line 1 a10; line 1 a20; line 1 a60;");
        due("two are enough for 80", two.hot(0, 80, 0), 2);
        due("these two", two.hot(0, 80, 1), 0b1100);
        due("three for 81", two.hot(0, 81, 1), 0b1101);
        EventCounters last = Due.with("line1;".repeat(15) + "line1h1;");
        due("only the last makes it", last.hot(7, 1, 1), 1 << 15);
        due("never made", last.hot(6, 1, 0), NONE);
        due("never made", last.hot(6, 100, 1), NONE);
    }

    /** Promises 13, 14: "(0: nothing was KEPT)", "one that was not there made 0", "NONE: none differs". */
    private static void kept() {
        EventCounters x = Due.with("line1a2;".repeat(16));
        due("nothing was kept", x.beside(0, 1), 0);
        due("all make more", x.beside(0, 2), 65535);
        due("none less", x.beside(0, 3), 0);
        due("of several the least", x.beside(0, 4), 0);
        due("sixteen are kept", x.keep(), 16);
        due("none differs", x.beside(0, 4), NONE);
        x.program();
        due("none more", x.beside(0, 2), 0);
        due("all less", x.beside(0, 3), 65535);
        due("of several the least", x.beside(0, 4), 0);
        due("the total then", x.beside(0, 1), 32);
        due("the total now", x.beside(0, 0), 0);
        Due.tell(x, "line1a2;".repeat(15) + "line1a3;");
        due("the last makes more", x.beside(0, 2), 1 << 15);
        due("the last differs", x.beside(0, 4), 15);
        Due.tell(x, "line1a2;".repeat(15));
        due("the last is not there", x.beside(0, 3), 1 << 15);
        due("the last differs", x.beside(0, 4), 15);
        due("fifteen are kept", x.keep(), 15);
        Due.tell(x, "line1a2;".repeat(16));
        due("the last was not there", x.beside(0, 2), 1 << 15);
        Due.tell(x, "loop 2; line1a1; end; line1a2; line1a1; line1a3;");
        due("all times are one", x.beside(0, 2), 0b1000);
        due("less", x.beside(0, 3), 0b111111111110100);
        // One more, one less by as much: without sign, of several the least.
        Due.tell(x, "line1a2;line1a3;line1a1;" + "line1a2;".repeat(12));
        due("one more", x.beside(0, 2), 0b010);
        due("one less", x.beside(0, 3), 0b100);
        due("of both the least", x.beside(0, 4), 1);
        Due.tell(x, "line1a2;line1a1;line1a3;" + "line1a2;".repeat(12));
        due("of both the least", x.beside(0, 4), 1);
    }

    // ---- counters

    /** Promise 15: "all MASKS, WIDTHS as at first, RUNS are gone", by the same k, too. */
    private static void counters() {
        for (int k = 1; k <= 4; k++) {
            for (int v = 1; v <= 4; v++) {
                EventCounters x = new EventCounters();
                x.counters(k);
                for (int c = 0; c < k; c++) {
                    x.mask(c, 1 << c);
                    x.width(c, 2 + c);
                }
                x.run(0, 0, 0);
                due("it was", x.counters(v), k);
                due("it is", x.count(1), v);
                due("no runs", x.count(2), 0);
                for (int c = 0; c < 4; c++) {
                    due("mask", x.count(10 + c), c < v ? 255 : BAD);
                    due("width", x.count(20 + c), c < v ? 8 : BAD);
                }
                due("as many go together", x.together((1 << v) - 1), 1);
                due("one more does not", x.together((1 << v + 1) - 1), 0);
            }
        }
    }

    private static void masksOfNothingAndOfAll() {
        EventCounters x = masked("line 1 a1;", 0, 0, 0, 0);
        EventCounters y = masked("line 1 a1;", 255, 255, 255, 255);
        for (int set = 0; set < 256; set++) {
            int n = Integer.bitCount(set);
            due("nothing goes", x.together(set), set == 0 ? 1 : 0);
            due("four go at most: " + set, y.together(set), n <= 4 ? 1 : 0);
        }
        EventCounters nothing = masked("line 1 a1;", 0, 0, 0, 0);
        EventCounters all = masked("line 1 a1;", 255, 255, 255, 255);
        for (int set = 0; set < 256; set++) {
            due("no rounds", nothing.rounds(set, 0), set == 0 ? 0 : NONE);
            due("rounds of " + set, all.rounds(set, 0), (Integer.bitCount(set) + 3) / 4);
        }
        due("a mask of the last event", masked("line 1 h1;", 128).goes(128, 7), 0);
    }

    /** "of several ways the one with the least COUNTER for the least EVENT, then for the next one, and so on" */
    private static void goesTogether() {
        EventCounters x = masked("", 0b0011, 0b0011, 0b1111, 0b1111);
        int[] want = {0, 1, 2, 3};
        for (int e = 0; e < 4; e++) {
            due("all four: " + e, x.goes(0b1111, e), want[e]);
        }
        due("c alone", x.goes(0b0100, 2), 2);
        due("c with d", x.goes(0b1100, 3), 3);
        // The least COUNTER for a would leave b none; then a has the next one.
        EventCounters y = masked("", 0b0010, 0b0011, 0b0101, 0b0101);
        due("a", y.goes(0b0011, 0), 1);
        due("b", y.goes(0b0011, 1), 0);
        due("a with b c", y.goes(0b0111, 0), 1);
        due("c with a b", y.goes(0b0111, 2), 2);
        due("a c alone", y.goes(0b0101, 2), 2);
        EventCounters z = masked("", 0b0111, 0b0011, 0b0001);
        due("a last", z.goes(0b0111, 0), 2);
        due("b next", z.goes(0b0111, 1), 1);
        due("c first", z.goes(0b0111, 2), 0);
        due("more than there are counters", z.goes(0b1111, 0), NONE);
        due("as many, but one can not be", z.goes(0b1011, 0), NONE);
    }

    /** "of several ways the one whose first ROUND .. is the least set as bits, then likewise the second one" */
    private static void rounds() {
        EventCounters eight = masked("", 255);
        for (int i = 0; i < 8; i++) {
            due("one each", eight.rounds(255, 10 + i), 1 << i);
        }
        due("no ninth", eight.rounds(255, 18), BAD);
        sets(masked("", 255, 255), 0b00011111, 0b00000001, 0b00000110, 0b00011000);
        sets(masked("", 255, 255, 255, 255), 255, 0b00001111, 0b11110000);
        sets(masked("", 255, 255, 255, 255), 0b01111111, 0b00000111, 0b01111000);
        // a could go alone, but then b and c would need two.
        sets(masked("", 0b0001, 0b0110), 0b0111, 0b0011, 0b0100);
        // The first is the least of those that leave as few as may be, though it has more EVENTS.
        sets(masked("", 0b0011, 0b1100), 0b1111, 0b0101, 0b1010);
        sets(masked("", 0b1001, 0b0110), 0b1111, 0b0011, 0b1100);
        sets(masked("", 0b10000000), 0b10000000, 0b10000000);
        sets(masked("", 255), 0);
    }

    private static void sets(EventCounters x, int events, int... want) {
        due("how many of " + events, x.rounds(events, 0), want.length);
        for (int i = 0; i < want.length; i++) {
            due("round " + i + " of " + events, x.rounds(events, 10 + i), want[i]);
        }
        due("one more of " + events, x.rounds(events, 10 + want.length), BAD);
    }

    // ---- slices

    /** "a STEP counts for the SLICE in which its first TICK is" */
    private static void slicesBeginAnew() {
        EventCounters x = masked("line 20 a1; line 20 a2 b1; line 20 a4; line 1 a8 b2;", 255);
        // STEPS at 0, 20, 40, 60; ROUND 0 has the even SLICES.
        int[][] want = {{20, 5, 3}, {21, 11, 0}, {19, 5, 3}, {40, 3, 2}, {41, 7, 2}, {60, 7, 2}, {61, 15, 0}, {999, 15, 0}};
        for (int[] row : want) {
            due("a by slices of " + row[0], x.sliced(0b11, row[0], 0, 0), row[1]);
            due("b by slices of " + row[0], x.sliced(0b11, row[0], 1, 0), row[2]);
        }
        due("ticks of a: 0 to 19, 40 to 59", x.sliced(0b11, 20, 0, 1), 40);
        due("ticks of b: 20 to 39, 60", x.sliced(0b11, 20, 1, 1), 21);
        due("a step is whole though its end is in another slice", x.sliced(0b11, 1, 0, 1), 61);
        due("none begins in an odd tick", x.sliced(0b11, 1, 1, 1), 0);
    }

    /** "SLICE i is of ROUND i modulo how many there are" */
    private static void roundsBeginAnew() {
        EventCounters x = masked("loop 24; line 1 a1 b1 c1 d1 e1 f1 g1 h1; end;", 255);
        for (int n = 1; n <= 8; n++) {
            int set = (1 << n) - 1;
            for (int e = 0; e < n; e++) {
                // SLICES of one TICK: every n-th STEP, from e on.
                due("of " + n + " rounds that of " + e, x.sliced(set, 1, e, 0), (24 - e + n - 1) / n);
                due("its ticks", x.sliced(set, 1, e, 1), (24 - e + n - 1) / n);
            }
        }
        due("the ninth slice is of the first round", x.sliced(255, 3, 0, 0), 3);
        due("the eighth is of the last", x.sliced(255, 3, 7, 0), 3);
        due("24 ticks are just one slice of 24", x.sliced(255, 24, 0, 0), 24);
        due("the 24th is the second one of 23", x.sliced(255, 23, 1, 0), 1);
    }

    /** "(NONE, if there are none)": TICKS of STEPS that began in SLICES of its ROUND. */
    private static void noTicks() {
        EventCounters x = masked("line 20 a1; line 1 a1 b1;", 255);
        due("the second slice of 20 has one step", x.scaled(0b11, 20, 1, 0), 21);
        due("the second slice of 21 has none", x.scaled(0b11, 21, 1, 0), NONE_SCALED);
        for (int what = 0; what < 4; what++) {
            due("none, whatever is asked", x.scaled(0b11, 21, 1, what), NONE_SCALED);
        }
        due("counted is 0", x.sliced(0b11, 21, 1, 0), 0);
        due("ticks are 0", x.sliced(0b11, 21, 1, 1), 0);
        due("one round alone has all", x.scaled(0b10, 21, 1, 0), 1);
        due("the first round has ticks at any t", x.scaled(0b11, 999, 0, 0), 2);
    }

    /** Promise 23: "(200 at most)", "of several the least". */
    private static void finest() {
        EventCounters x = masked("line 20 a1; line 1 a1 b1;", 255);
        due("one alone", x.finest(0b11, 20, 20, 1), 20);
        due("one alone without ticks", x.finest(0b11, 21, 21, 1), NONE);
        due("the first of 200", x.finest(0b11, 20, 219, 1), 20);
        due("200 without ticks", x.finest(0b11, 800, 999, 1), NONE);
        for (int e = 0; e < 2; e++) {
            nearest("line 20 a1; line 1 a1 b1;", e, 1, 200);
            nearest("loop 40; line 3 a1; line 2 b2; line 5 a7 b1; end;", e, 1, 200);
            nearest("loop 40; line 3 a1; line 2 b2; line 5 a7 b1; end;", e, 200, 399);
        }
        due("the last one alone is near", masked("line 5 a1; line 5; line 5; line 5;", 255).finest(0b11, 3, 4, 0), 4);
    }

    /** What finest tells is what scaled tells for each t. */
    private static void nearest(String text, int e, int from, int to) {
        EventCounters x = masked(text, 255);
        int best = NONE;
        double near = 0;
        for (int t = from; t <= to; t++) {
            long above = x.scaled(0b11, t, e, 2);
            if (above != NONE_SCALED) {
                double off = Math.abs((double) above / x.scaled(0b11, t, e, 3));
                if (best == NONE || off < near - 1e-9) {
                    best = t;
                    near = off;
                }
            }
        }
        due("from " + from + " to " + to + " the nearest", masked(text, 255).finest(0b11, from, to, e), best);
    }

    // ---- samples

    /** "as long as the sum is p or more, it becomes less by p and a SAMPLE is taken" */
    private static void sumsBeginAnew() {
        EventCounters x = Due.with("line 1 a99; line 1 a1;");
        int[][] want = {
            // p, b, shown of LINE 0, of LINE 1
            {1, 0, 99, 1}, {99, 0, 1, 0}, {100, 0, 0, 1}, {101, 0, 0, 0}, {101, 1, 0, 1}, {101, 2, 1, 0}, {98, 0, 1, 0},
            {98, 97, 2, 0}, {50, 0, 1, 1}, {50, 1, 2, 0}, {33, 0, 3, 0}, {33, 32, 3, 1}, {2, 0, 49, 1}, {2, 1, 50, 0},
            {9999, 0, 0, 0}, {9999, 9898, 0, 0}, {9999, 9899, 0, 1}, {9999, 9900, 1, 0}, {9999, 9998, 1, 0}};
        for (int[] row : want) {
            due("line 0 of one each " + row[0] + " from " + row[1], x.shows(0, row[0], row[1], 0, 0), row[2]);
            due("line 1 of one each " + row[0] + " from " + row[1], x.shows(0, row[0], row[1], 0, 1), row[3]);
            due("all of one each " + row[0] + " from " + row[1], x.samples(0, row[0], row[1], 0, 0), row[2] + row[3]);
        }
    }

    /** "the STEP that is k behind that one (beyond the last STEP: LOST)" */
    private static void skids() {
        EventCounters x = Due.with("line1a1;" + "line1;".repeat(9));
        for (int k = 0; k <= 9; k++) {
            due("shown k behind", x.samples(0, 1, 0, k, 2), 1 << k);
            due("not lost", x.samples(0, 1, 0, k, 1), 0);
        }
        EventCounters y = Due.with("line1a1;" + "line1;".repeat(8));
        due("the last step", y.samples(0, 1, 0, 8, 2), 1 << 8);
        due("beyond it: lost", y.samples(0, 1, 0, 9, 1), 1);
        due("beyond it: taken", y.samples(0, 1, 0, 9, 0), 1);
        due("beyond it: nothing is shown", y.samples(0, 1, 0, 9, 2), 0);
        due("beyond it: not shown", y.samples(0, 1, 0, 9, 3), 1);
        due("beyond it: none most", y.samples(0, 1, 0, 9, 5), NONE);
        EventCounters z = Due.with("loop 60; loop 99; line 1 a1; end; end; loop 60; line 1 a1; end;");
        for (int k = 0; k <= 9; k++) {
            due("of 6000 steps lost", z.samples(0, 1, 0, k, 1), k);
            due("of 6000 steps shown", z.shows(0, 1, 0, k, 0), 5940 - k);
            due("the others show the last line", z.shows(0, 1, 0, k, 1), 60);
        }
    }

    /** "without signs, summed": between 0 and 2. */
    private static void sharesAndFar() {
        EventCounters x = Due.with("line 1 a1; line 1;");
        due("as it is", x.far(0, 1, 0, 0, 0), 0);
        due("as it is, by 1", x.far(0, 1, 0, 0, 1), 1);
        due("all are shown elsewhere", x.far(0, 1, 0, 1, 0), 2);
        due("all are shown elsewhere, by 1", x.far(0, 1, 0, 1, 1), 1);
        due("all are lost", x.far(0, 1, 0, 2, 0), NONE);
        due("all are lost, below too", x.far(0, 1, 0, 2, 1), NONE);
        due("too seldom", x.far(0, 2, 0, 0, 0), NONE);
        due("just often enough", x.far(0, 2, 1, 0, 0), 0);
        // Of 3 a LINE 0 makes 2, LINE 1 makes 1; one SAMPLE shows LINE 1: 2/3 and 2/3.
        EventCounters y = Due.with("line 1 a2; line 1 a1;");
        due("4", y.far(0, 3, 0, 0, 0), 4);
        due("by 3", y.far(0, 3, 0, 0, 1), 3);
    }

    /** "(200 at most)", "of several the least (those that show nothing are left out)" */
    private static void truest() {
        EventCounters x = Due.with("loop 2; loop 51; line 1 a99; end; end; line 1 a1;");
        // 10098 and 1: all periods up to 9999 show something.
        due("the greatest alone", x.truest(0, 9999, 9999, 0), 9999);
        due("the greatest 200: each shows LINE 0 alone", x.truest(0, 9800, 9999, 0), 9800);
        due("the least", x.truest(0, 1, 200, 0), 1);
        due("201", x.truest(0, 9799, 9999, 0), BAD);
        EventCounters y = Due.with("line 1 a99; line 1 a51;");
        due("the last that shows something", y.truest(0, 150, 349, 0), 150);
        due("none shows something", y.truest(0, 151, 350, 0), NONE);
        due("all are lost", y.truest(0, 1, 200, 2), NONE);
        due("not all are lost", y.truest(0, 1, 200, 1), 1);
        // Each from 51 to 75 shows either LINE once.
        due("of two that are as far the least", y.truest(0, 51, 75, 0), 51);
        for (int p : new int[] {1, 2, 3, 7, 11, 17, 29, 31, 60, 100, 200}) {
            for (int k = 0; k <= 9; k++) {
                leastFar(0, p, p + 199, k);
                leastFar(1, p, p + 9, k);
            }
        }
    }

    /** What truest tells is what far tells for each period. */
    private static void leastFar(int e, int from, int to, int k) {
        String text = "line 1 b7; loop 9; line 1 a13 b2; loop 3; line 1 a5; end; end; line 1 a31 b40;";
        EventCounters x = Due.with(text);
        int best = NONE;
        double near = 0;
        for (int p = from; p <= to; p++) {
            long above = x.far(e, p, 0, k, 0);
            if (above != NONE) {
                double far = (double) above / x.far(e, p, 0, k, 1);
                if (best == NONE || far < near - 1e-12) {
                    best = p;
                    near = far;
                }
            }
        }
        due("from " + from + " to " + to + " skid " + k + " the truest", Due.with(text).truest(e, from, to, k), best);
    }

    /** Promise 28: "in how many times of THE PROGRAM it comes round to the same beginning" */
    private static void roundAndRound() {
        EventCounters x = Due.with("line 1 a3; line 1 a3; line 1 b1;");
        int[][] want = {
            // p, b, ever shown, never, times
            {1, 0, 0b011, 0, 1}, {3, 0, 0b011, 0, 1}, {6, 0, 0b010, 0b001, 1}, {6, 3, 0b001, 0b010, 1},
            {6, 2, 0b010, 0b001, 1}, {6, 5, 0b001, 0b010, 1}, {12, 0, 0b010, 0b001, 2}, {12, 9, 0b001, 0b010, 2},
            {4, 0, 0b011, 0, 2}, {5, 0, 0b011, 0, 5}, {9, 0, 0b011, 0, 3}, {9996, 0, 0b010, 0b001, 1666},
            {9999, 9998, 0b011, 0, 3333}, {9997, 0, 0b011, 0, 9997}};
        for (int[] row : want) {
            for (int what = 0; what < 3; what++) {
                due("one each " + row[0] + " from " + row[1] + ": " + what, x.beats(0, row[0], row[1], what), row[2 + what]);
            }
        }
        due("once in a program", x.beats(1, 9999, 0, 2), 9999);
        due("it is shown though it is made once", x.beats(1, 9999, 0, 0), 0b100);
        for (int what = 0; what < 3; what++) {
            due("never made", x.beats(2, 9999, 9998, what), 0);
        }
        EventCounters y = Due.with("loop 60; loop 99; line 20 a99; end; end;");
        due("more than p in all", y.beats(0, 9900, 0, 2), 5);
        due("as great as p may be", y.beats(0, 9999, 0, 2), 101);
    }

    // ---- counters that run over

    /** "begins anew from 0 behind its greatest number", for each WIDTH. */
    private static void runsOverByWidths() {
        EventCounters x = Due.with("line 1 a1 b2; loop 11; loop 11; line 1 c1; end; end;");
        for (int w = 2; w <= 16; w++) {
            x.width(1, w);
            int greatest = (1 << w) - 1;
            due("one ahead of the greatest", x.over(1, 0, greatest - 1, 0), greatest);
            due("it did not run over", x.over(1, 0, greatest - 1, 1), 0);
            due("from the greatest", x.over(1, 0, greatest, 0), 0);
            due("it ran over", x.over(1, 0, greatest, 1), 1);
            due("two from the greatest", x.over(1, 1, greatest, 0), 1);
            due("no event from the greatest", x.over(1, 3, greatest, 0), greatest);
            due("it did not run over", x.over(1, 3, greatest, 1), 0);
            due("121 from 0", x.over(1, 2, 0, 0), 121 % (greatest + 1));
            due("so often", x.over(1, 2, 0, 1), 121 / (greatest + 1));
            due("121 from the greatest", x.over(1, 2, greatest, 0), 120 % (greatest + 1));
            due("so often", x.over(1, 2, greatest, 1), 1 + 120 / (greatest + 1));
            due("more than it holds", x.over(1, 0, greatest + 1, 0), BAD);
        }
    }

    /** "LOST: how many EVENTS are missing by that": just as many as it holds are not, one more are all of them. */
    private static void lookedByWidths() {
        for (int w = 2; w <= 10; w++) {
            int greatest = (1 << w) - 1;
            EventCounters x = new EventCounters();
            // As many STEPS as the greatest number, then one more.
            Due.tell(x, times(greatest));
            x.width(0, w);
            due("the greatest is told", x.looked(0, 0, 999, 0), greatest);
            due("nothing is lost", x.looked(0, 0, 999, 1), 0);
            Due.tell(x, times(greatest + 1));
            boolean once = greatest + 1 <= 999;
            due("one more: told", x.looked(0, 0, 999, 0), once ? 0 : greatest + 1);
            due("one more: lost", x.looked(0, 0, 999, 1), once ? greatest + 1 : 0);
            due("looked at so often", x.looked(0, 0, 999, 2), once ? 1 : 2);
        }
        EventCounters most = Due.with("loop 60; loop 99; line 1 a99; end; end;");
        most.width(0, 16);
        due("98901 of 65536 in each of five, 93555 in the last", most.looked(0, 0, 999, 1), 6 * 65536);
        due("nothing is lost by less", most.looked(0, 0, 661, 1), 0);
        due("65538 in 662", most.looked(0, 0, 662, 1), 8 * 65536);
    }

    /** A text of so many STEPS of one TICK with one a each. */
    private static String times(int n) {
        StringBuilder text = new StringBuilder();
        if (n >= 64) {
            text.append("loop ").append(n / 64).append("; loop 64; line 1 a1; end; end;");
        }
        return n % 64 == 0 ? text.toString() : text + "loop " + n % 64 + "; line 1 a1; end;";
    }

    /** "at STEPS that begin in another SLICE of t than the STEP ahead, and at the end" */
    private static void lookedAtEdges() {
        EventCounters x = Due.with("line 20 a3; line 20 a3; line 20 a3;");
        x.width(0, 2);
        int[][] want = {
            // t, told, lost, how often
            {1, 9, 0, 3}, {19, 9, 0, 3}, {20, 9, 0, 3}, {21, 3 - 1 + 3, 4, 2}, {39, 5, 4, 2}, {40, 5, 4, 2}, {41, 1, 8, 1},
            {60, 1, 8, 1}, {999, 1, 8, 1}};
        for (int[] row : want) {
            for (int what = 0; what < 3; what++) {
                due("each " + row[0] + ": " + what, x.looked(0, 0, row[0], what), row[1 + what]);
            }
        }
        EventCounters one = Due.with("line 20 a3;");
        due("one step, at the end alone", one.looked(0, 0, 1, 2), 1);
        due("it is told", one.looked(0, 0, 1, 0), 3);
    }

    /** Promise 31: "The greatest t (1 to 999) so that nothing is LOST; NONE: none." */
    private static void seldom() {
        for (int t : new int[] {1, 2, 20, 500, 998, 999}) {
            // From 0 to t less 1 none, then two EVENTS that are too many together; they are apart by t alone or less.
            EventCounters x = new EventCounters();
            Due.tell(x, apart(t));
            x.width(0, 2);
            due("two steps that are " + t + " apart", x.seldom(0, 0), t);
        }
        EventCounters y = Due.with(apart(20) + "line 1 b4; line 1 c3;");
        y.width(0, 2);
        due("a step makes more than it holds", y.seldom(0, 1), NONE);
        due("a step makes as much as it holds", y.seldom(0, 2), 999);
        due("another event is never made", y.seldom(0, 7), 999);
        y.width(0, 3);
        due("more is held", y.seldom(0, 1), 999);
        // At 200, 201, 202: each of the three is alone only by 1, two of them are together in a later SLICE by 201.
        EventCounters late = Due.with("loop 10; line 20; end; loop 3; line 1 a2; end;");
        late.width(0, 2);
        due("together in a later slice", late.seldom(0, 0), 1);
        EventCounters z = Due.with("loop 2; loop 30; line 20 a1; end; end;");
        z.width(0, 5);
        due("60 steps, 31 are held", z.seldom(0, 0), 620);
        z.width(0, 6);
        due("60 steps, 63 are held", z.seldom(0, 0), 999);
        z.width(0, 2);
        due("60 steps, 3 are held", z.seldom(0, 0), 60);
    }

    /** 2 a in TICK 0, 2 a in TICK t. */
    private static String apart(int t) {
        StringBuilder text = new StringBuilder("line 1 a2;");
        int left = t - 1;
        if (left >= 20) {
            text.append("loop ").append(left / 20).append("; line 20; end;");
        }
        if (left % 20 > 0) {
            text.append("line ").append(left % 20).append(";");
        }
        return text + "line 1 a2;";
    }

    // ---- wired wrong

    /** "RUNS (12)"; promise 33: "RUNS are gone". */
    private static void runs() {
        EventCounters x = Due.with("line 1 a1;");
        for (int round = 0; round < 3; round++) {
            for (int i = 1; i <= 12; i++) {
                due("run " + i, x.run(0, 0, 1), i);
                due("count", x.count(2), i);
            }
            due("the thirteenth", x.run(0, 0, 1), FULL);
            due("of another counter", x.run(1, 7, 0), FULL);
            due("there are twelve", x.count(2), 12);
            if (round == 0) {
                due("forget", x.forget(), 12);
            } else if (round == 1) {
                x.counters(2);
            }
            due("gone, but for the last time", x.count(2), round == 2 ? 12 : 0);
        }
        due("the mask of it does not matter", x.mask(0, 0), 255);
        due("nor the width", x.width(0, 2), 8);
        due("what it showed", x.wired(0, 0, 0) > 0 ? 1 : 0, 1);
        Due.tell(x, "line 1 a1;");
        due("gone by a text that is taken", x.count(2), 0);
        due("from the beginning", x.run(0, 0, 1), 1);
        x.program();
        due("gone by an empty one", x.count(2), 0);
    }

    /** "of all sets of one or two EVENTS"; "those of one EVENT first, then of two, by bits" */
    private static void guesses() {
        EventCounters x = new EventCounters();
        x.run(0, 0, 0);
        due("all of them", x.wired(0, 0, 0), 36);
        int i = 0;
        for (int events = 1; events <= 2; events++) {
            for (int set = 1; set < 256; set++) {
                if (Integer.bitCount(set) == events) {
                    due("guess " + i, x.wired(0, 0, 10 + i), set);
                    i++;
                }
            }
        }
        due("behind the last", x.wired(0, 0, 10 + i), BAD);
        x.run(0, 0, 1);
        due("none fits both", x.wired(0, 0, 0), 0);
        due("no first one", x.wired(0, 0, 10), BAD);
        x.run(0, 1, 999999);
        due("none fits", x.wired(0, 1, 0), 0);
        due("that counter has no run of that event", x.wired(0, 2, 0), NONE);
        due("nor has the other one", x.wired(1, 0, 0), NONE);
        // Two EVENTS together make more than one RUN can show: 999999 is the greatest.
        EventCounters big = Due.with("loop 60; loop 99; line 20 a99 b69; end; end; line 1 a0 b39; line 1 h1;");
        big.run(1, 3, 588060);
        due("99 in 5940 steps", big.wired(1, 3, 0), 1 + 5);
        due("a", big.wired(1, 3, 10), 1);
        big.run(1, 4, 588060 + 409899);
        due("a and b", big.wired(1, 4, 0), 1);
        due("a and b", big.wired(1, 4, 10), 3);
        // RUNS of the other COUNTER or of another EVENT do not matter.
        big.run(0, 3, 1);
        due("still so", big.wired(1, 3, 0), 6);
        due("h", big.wired(0, 3, 10), 128);
    }

    // ---- sheets

    /** "with 0 to 40 CELLS, or nothing (at first)"; promise 35: "a new row of CELLS 0" */
    private static void sheetsOfEachSize() {
        for (int k = 0; k < 4; k++) {
            EventCounters x = Due.with("line 1 a5;");
            due("nothing at first", x.lay(k, 0, 1), -11);
            due("nothing to be read", x.said(k, 0, 0, 0, 0), -11);
            for (int n = 0; n <= 40; n++) {
                due("new", x.sheet(k, n % 3, n), 1);
                due("behind the last", x.lay(k, n, 7), -12);
                due("behind the last", x.said(k, n % 3, n, 0, 0), -12);
                due("the last", x.lay(k, n - 1, 7), n == 0 ? -12 : 1);
                due("the last is read", x.said(k, n % 3, n - 1, 0, 2), n == 0 ? -12 : 2);
                if (n > 1) {
                    due("the one ahead of it is 0 again", x.said(k, n % 3, n - 2, 0, 3), 5);
                }
            }
            due("anew", x.sheet(k, 0, 40), 1);
            due("the last is 0 again", x.said(k, 0, 39, 0, 3), 5);
            due("the others are nothing", x.lay((k + 1) % 4, 0, 1), -11);
            due("cells of sheet 0", x.count(4), k == 0 ? 40 : NONE);
        }
    }

    /** Promise 36: "becomes v (its lowest bits)"; BYTES, SHORTS, INTS, all with a sign. */
    private static void lanesBeginAnew() {
        EventCounters x = Due.with("line 1;");
        for (int lane = 0; lane < 3; lane++) {
            x.sheet(2, lane, 1);
            for (int v : new int[] {0, 1, 127, 128, 255, 256, 257, 383, 384, 32767, 32768, 65535, 65536, 65537, 98303, 98304,
                    999999, 1000000, 1 << 24, (1 << 24) + 5, Integer.MAX_VALUE, Integer.MIN_VALUE, -1, -127, -128, -129,
                    -255, -256, -32768, -32769, -65535, -65536}) {
                int held = lane == 0 ? (byte) v : lane == 1 ? (short) v : v;
                due("lay " + v, x.lay(2, 0, v), 1);
                due("held in lane " + lane + " of " + v, x.said(2, lane, 0, 0, 2), held < 0 || held > 999999 ? -20 : held);
            }
        }
    }

    /** Promise 37: "CELL by CELL INDEX; -20 less l: CELL f + l is below 0 or above 999999; the first met" */
    private static void said() {
        EventCounters x = Due.with("line1a1;".repeat(16));
        x.sheet(1, 2, 40);
        for (int i = 0; i < 40; i++) {
            x.lay(1, i, 1);
        }
        due("all sixteen as it is", x.said(1, 2, 0, 0, 0), 16);
        due("none is not", x.said(1, 2, 0, 0, 1), NONE);
        due("the last sixteen", x.said(1, 2, 24, 0, 0), 16);
        due("one too far", x.said(1, 2, 25, 0, 0), -12);
        due("one too far ahead", x.said(1, 2, -1, 0, 0), -12);
        for (int l = 0; l < 16; l++) {
            x.lay(1, 10 + l, -1);
            due("below 0 at " + l, x.said(1, 2, 10, 0, 0), -20 - l);
            x.lay(1, 10 + l, 1000000);
            due("above at " + l, x.said(1, 2, 10, 0, 3), -20 - l);
            x.lay(1, 10 + l, 999999);
            due("just not above at " + l, x.said(1, 2, 10, 0, 2), 999998);
            due("the first that is not", x.said(1, 2, 10, 0, 1), l);
            x.lay(1, 10 + l, 0);
            due("just not below at " + l, x.said(1, 2, 10, 0, 3), 1);
            due("all others are as it is", x.said(1, 2, 10, 0, 0), 15);
            x.lay(1, 10 + l, 1);
        }
        x.lay(1, 39, -1);
        due("below ahead of too far", x.said(1, 2, 30, 0, 0), -29);
        x.lay(1, 39, 1);
        for (int i = 0; i < 40; i++) {
            x.lay(1, i, 999999);
        }
        due("all too much", x.said(1, 2, 24, 0, 2), 16 * 999998);
        due("none too little", x.said(1, 2, 24, 0, 3), 0);
        due("of an event that is never made", x.said(1, 2, 24, 7, 2), 16 * 999999);
        EventCounters most = Due.with("loop 60; loop 99; line 1 a99; end; end;");
        most.sheet(0, 2, 1);
        due("all too little", most.said(0, 2, 0, 0, 3), 588060);
        most.lay(0, 0, 588060);
        due("all its times", most.said(0, 2, 0, 0, 0), 1);
        most.program();
        due("no lines: none is as it is", most.said(0, 2, 0, 0, 0), 0);
        due("no lines: none is not", most.said(0, 2, 0, 0, 1), NONE);
        due("no lines: nothing too much", most.said(0, 2, 99, 0, 2), 0);
        due("no lines: another lane", most.said(0, 1, 0, 0, 0), -13);
        due("no lines: nothing", most.said(1, 2, 0, 0, 0), -11);
    }

    /** Promise 38: "(NONE: nothing)". */
    private static void count() {
        EventCounters x = new EventCounters();
        due("nothing", x.count(4), NONE);
        x.sheet(0, 0, 0);
        due("no cells", x.count(4), 0);
        x.sheet(0, 0, 40);
        due("40 cells", x.count(4), 40);
        for (int k = 1; k <= 4; k++) {
            x.counters(k);
            for (int c = 0; c < 6; c++) {
                due("mask " + c + " of " + k, x.count(10 + c), c < k ? 255 : BAD);
                due("width " + c + " of " + k, x.count(20 + c), c < k ? 8 : BAD);
            }
        }
    }

    /** "An object is used for at most 512 calls": the last one of them answers as the first. */
    private static void theLastCall() {
        for (int made = 507; made <= 511; made++) {
            EventCounters x = new EventCounters();
            for (int i = 0; i < made; i++) {
                due("call " + i, i % 2 == 0 ? x.feed(-1) : x.end(0), 8);
            }
            due("call " + made, x.count(3), made % 2 * 8);
        }
        // 507 calls and "line 1 a5;" in five.
        EventCounters x = new EventCounters();
        for (int i = 0; i < 507; i++) {
            due("run or none to forget", x.forget(), 0);
        }
        Due.write(x, "line 1 a5;");
        due("call 511", x.program(), 1);
        due("call 512", x.whole(10), 5);
    }
}
