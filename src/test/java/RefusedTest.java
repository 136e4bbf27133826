import java.util.ArrayList;
import java.util.LinkedHashMap;
import java.util.List;
import java.util.Map;

/**
 * "what is refused changes nothing (but THE TAPE, as told)": two objects live through the same calls, one is asked
 * something more that is refused, and behind that both answer the same, whatever they are asked.
 */
final class RefusedTest {
    private static final int BAD = EventCounters.BAD, FULL = EventCounters.FULL, NONE = EventCounters.NONE;
    private static final int LEAST = Integer.MIN_VALUE, GREATEST = Integer.MAX_VALUE;
    private static final long BAD_SCALED = -1000000000000L, NONE_SCALED = -1000000000004L;

    private RefusedTest() {
    }

    private interface Call {
        long ask(EventCounters x);
    }

    private interface Life {
        EventCounters live();
    }

    public static void main(String[] args) {
        badOfThePrograms();
        badOfCounters();
        badOfSlices();
        badOfSamples();
        badOfRunningOver();
        badOfRuns();
        badOfSheets();
        full();
        none();
        faultsOfSheets();
        faultsOfTexts();
        questionsChangeNothing();
        changesOfTheTape();
        changesOfCounters();
        changesOfRunsAndKept();
        changesOfSheets();
        aTextThatIsTaken();
        Due.close();
    }

    // ---- lives

    private static final Life NEW = EventCounters::new;

    private static EventCounters some() {
        EventCounters x = Due.with("line 3 a5 b1; loop 2; line 1 a2 c9; end; line 7 h4;");
        x.keep();
        Due.tell(x, "line 2 a4; loop 3; line 1 b2 c3; loop 2; line 4 a1 h3; end; end;");
        x.counters(3);
        x.mask(0, 0b10110101);
        x.mask(2, 0b00001111);
        x.width(0, 4);
        x.width(2, 16);
        x.run(0, 0, 10);
        x.run(1, 1, 6);
        x.run(0, 1, 9);
        someSheets(x);
        Due.tell(x, "line 1 a1 a2;");
        Due.write(x, "line 3 a2");
        return x;
    }

    private static void someSheets(EventCounters x) {
        x.sheet(0, 0, 5);
        x.sheet(1, 1, 40);
        x.sheet(2, 2, 0);
        for (int i = 0; i < 5; i++) {
            x.lay(0, i, 3 * i + 1);
            x.lay(1, 35 + i, 1000 * i + 7);
        }
    }

    /** All is full: sixteen LINES, 320 bytes on THE TAPE, four COUNTERS, twelve RUNS, four SHEETS of 40 CELLS. */
    private static EventCounters filled() {
        EventCounters x = Due.with("line1a1h2;".repeat(8) + "line2b3c4;".repeat(8));
        x.keep();
        x.counters(4);
        for (int i = 0; i < 12; i++) {
            x.run(i % 4, i % 8, 8 * i);
        }
        for (int k = 0; k < 4; k++) {
            x.sheet(k, k % 3, 40);
            x.lay(k, 39, 5 + k);
        }
        Due.write(x, "line 4 a3;" + " ".repeat(300) + "line 1 b2;");
        return x;
    }

    // ---- all that can be seen of an object

    private static Map<String, List<Long>> lookAtAll(EventCounters x) {
        Map<String, List<Long>> all = new LinkedHashMap<>();
        all.put("fault", List.of((long) x.fault()));
        all.put("lines", lines(x));
        all.put("beside", beside(x));
        all.put("kept", kept(x));
        all.put("counters", counters(x));
        all.put("runs", runs(x));
        all.put("sheets", sheets(x));
        all.put("tape", tape(x));
        return all;
    }

    private static List<Long> lines(EventCounters x) {
        List<Long> all = new ArrayList<>();
        for (int l = 0; l < x.count(0); l++) {
            for (int what : new int[] {0, 1, 2, 10, 17}) {
                all.add((long) x.line(l, what));
            }
        }
        for (int i = 0; i < 20; i++) {
            all.add((long) x.step(i));
        }
        for (int what : new int[] {0, 1, 10, 11, 12, 13, 14, 15, 16, 17}) {
            all.add((long) x.whole(what));
        }
        for (int q = 0; q <= x.count(5); q++) {
            for (int what = 0; what < 5; what++) {
                all.add((long) x.loop(q, what));
            }
        }
        return all;
    }

    private static List<Long> beside(EventCounters x) {
        List<Long> all = new ArrayList<>();
        for (int e = 0; e < 8; e++) {
            for (int what = 2; what < 5; what++) {
                all.add((long) x.beside(e, what));
            }
        }
        return all;
    }

    private static List<Long> kept(EventCounters x) {
        List<Long> all = new ArrayList<>();
        for (int e = 0; e < 8; e++) {
            all.add((long) x.beside(e, 1));
        }
        return all;
    }

    private static List<Long> counters(EventCounters x) {
        List<Long> all = new ArrayList<>();
        all.add((long) x.count(1));
        for (int c = 0; c < 4; c++) {
            all.add((long) x.count(10 + c));
            all.add((long) x.count(20 + c));
        }
        for (int i = 0; i < 8; i++) {
            all.add((long) x.rounds(255, i == 0 ? 0 : 9 + i));
            all.add((long) x.goes(0b11 << i & 255, i));
        }
        return all;
    }

    private static List<Long> runs(EventCounters x) {
        List<Long> all = new ArrayList<>();
        all.add((long) x.count(2));
        for (int c = 0; c < 4; c++) {
            for (int e = 0; e < 8; e++) {
                all.add((long) x.wired(c, e, 0));
            }
            all.add((long) x.wired(c, 0, 10));
        }
        return all;
    }

    private static List<Long> sheets(EventCounters x) {
        List<Long> all = new ArrayList<>();
        all.add((long) x.count(4));
        for (int k = 0; k < 4; k++) {
            for (int lane = 0; lane < 3; lane++) {
                for (int first : new int[] {0, 1, 24, 35, 37}) {
                    all.add((long) x.said(k, lane, first, 0, 2));
                }
            }
            // What is laid beyond a SHEET tells how long it is.
            all.add((long) x.lay(k, 40, 0));
        }
        return all;
    }

    /** What stands on THE TAPE is read by program(), so this comes last. */
    private static List<Long> tape(EventCounters x) {
        List<Long> all = new ArrayList<>();
        all.add((long) x.count(3));
        all.add((long) x.program());
        all.add((long) x.fault());
        all.add((long) x.count(0));
        all.add((long) x.whole(10));
        all.add((long) x.whole(11));
        return all;
    }

    // ---- one beside the other

    private static void same(String name, Life life, Call call, String... other) {
        EventCounters asked = life.live();
        call.ask(asked);
        Map<String, List<Long>> got = lookAtAll(asked);
        Map<String, List<Long>> want = lookAtAll(life.live());
        for (String part : want.keySet()) {
            boolean due = !List.of(other).contains(part);
            Due.due(name + ": the same behind it, " + part, got.get(part).equals(want.get(part)) == due ? 1 : 0, 1);
        }
    }

    private static void refused(String name, Life life, long want, Call call) {
        Due.due(name, call.ask(life.live()), want);
        same(name, life, call);
    }

    private static void refused(String name, long want, Call call) {
        refused(name + ", new", NEW, want, call);
        refused(name + ", some", RefusedTest::some, want, call);
        refused(name + ", filled", RefusedTest::filled, want, call);
    }

    private static void bad(String name, Call... calls) {
        for (int i = 0; i < calls.length; i++) {
            refused(name + " " + i, BAD, calls[i]);
        }
    }

    // ---- BAD

    private static void badOfThePrograms() {
        bad("end", x -> x.end(-1), x -> x.end(321), x -> x.end(LEAST), x -> x.end(GREATEST), x -> x.end(x.count(3) + 1));
        bad("line", x -> x.line(-1, 0), x -> x.line(16, 0), x -> x.line(x.count(0), 1), x -> x.line(0, 18));
        bad("step", x -> x.step(-1), x -> x.step(6000), x -> x.step(x.whole(0)));
        bad("whole", x -> x.whole(-1), x -> x.whole(2), x -> x.whole(9), x -> x.whole(18));
        bad("ratio", x -> x.ratio(-1, 0, 0, 0), x -> x.ratio(NONE, 8, 0, 0), x -> x.ratio(NONE, 0, 8, 0),
            x -> x.ratio(NONE, 0, 0, 2));
        bad("loop", x -> x.loop(-1, 0), x -> x.loop(x.count(5), 0), x -> x.loop(0, 5));
        bad("went", x -> x.went(-1, 0, 9), x -> x.went(0, 8, 9), x -> x.went(0, 0, -1), x -> x.went(0, 0, 1000000));
        bad("hot", x -> x.hot(8, 50, 0), x -> x.hot(0, 0, 0), x -> x.hot(0, 101, 0), x -> x.hot(0, 50, 2));
        bad("beside", x -> x.beside(8, 0), x -> x.beside(-1, 0), x -> x.beside(0, -1), x -> x.beside(0, 5));
    }

    private static void badOfCounters() {
        bad("counters", x -> x.counters(0), x -> x.counters(5), x -> x.counters(LEAST), x -> x.counters(GREATEST));
        bad("mask", x -> x.mask(-1, 3), x -> x.mask(4, 3), x -> x.mask(x.count(1), 3), x -> x.mask(0, -1),
            x -> x.mask(0, 256), x -> x.mask(1, GREATEST));
        bad("width", x -> x.width(-1, 9), x -> x.width(4, 9), x -> x.width(x.count(1), 9), x -> x.width(0, 1),
            x -> x.width(0, 17), x -> x.width(1, LEAST));
        bad("together", x -> x.together(-1), x -> x.together(256));
        bad("goes", x -> x.goes(-1, 0), x -> x.goes(256, 0), x -> x.goes(255, 8), x -> x.goes(255, -1), x -> x.goes(5, 1));
        bad("rounds", x -> x.rounds(-1, 0), x -> x.rounds(256, 0), x -> x.rounds(0, 10), x -> x.rounds(7, 9),
            x -> x.rounds(7, 18));
    }

    private static void badOfSlices() {
        bad("sliced", x -> x.sliced(256, 5, 0, 0), x -> x.sliced(1, 0, 0, 0), x -> x.sliced(1, 1000, 0, 0),
            x -> x.sliced(1, 5, 1, 0), x -> x.sliced(1, 5, 0, 2));
        Call[] calls = {x -> x.scaled(256, 5, 0, 0), x -> x.scaled(1, 0, 0, 0), x -> x.scaled(1, 1000, 0, 0),
            x -> x.scaled(1, 5, 1, 0), x -> x.scaled(1, 5, 0, 4)};
        for (int i = 0; i < calls.length; i++) {
            refused("scaled " + i, BAD_SCALED, calls[i]);
        }
        bad("finest", x -> x.finest(256, 1, 9, 0), x -> x.finest(1, 0, 9, 0), x -> x.finest(1, 999, 1000, 0),
            x -> x.finest(1, 9, 8, 0), x -> x.finest(1, 1, 201, 0), x -> x.finest(1, 1, 9, 1));
    }

    private static void badOfSamples() {
        bad("shows", x -> x.shows(8, 2, 0, 0, 0), x -> x.shows(0, 0, 0, 0, 0), x -> x.shows(0, 10000, 0, 0, 0),
            x -> x.shows(0, 2, 2, 0, 0), x -> x.shows(0, 2, 0, 10, 0), x -> x.shows(0, 2, 0, 0, x.count(0)));
        bad("samples", x -> x.samples(8, 2, 0, 0, 0), x -> x.samples(0, 0, 0, 0, 0), x -> x.samples(0, 2, 2, 0, 0),
            x -> x.samples(0, 2, 0, 10, 0), x -> x.samples(0, 2, 0, 0, 6));
        bad("far", x -> x.far(8, 2, 0, 0, 0), x -> x.far(0, 0, 0, 0, 0), x -> x.far(0, 2, 2, 0, 0),
            x -> x.far(0, 2, 0, 10, 0), x -> x.far(0, 2, 0, 0, 2));
        bad("truest", x -> x.truest(8, 1, 9, 0), x -> x.truest(0, 0, 9, 0), x -> x.truest(0, 9999, 10000, 0),
            x -> x.truest(0, 9, 8, 0), x -> x.truest(0, 1, 201, 0), x -> x.truest(0, 1, 9, 10));
        bad("beats", x -> x.beats(8, 2, 0, 0), x -> x.beats(0, 0, 0, 0), x -> x.beats(0, 2, 2, 0),
            x -> x.beats(0, 2, 0, 3));
    }

    private static void badOfRunningOver() {
        bad("over", x -> x.over(4, 0, 0, 0), x -> x.over(0, 8, 0, 0), x -> x.over(0, 0, -1, 0),
            x -> x.over(0, 0, 1 << x.count(20), 0), x -> x.over(0, 0, 0, 2));
        bad("looked", x -> x.looked(4, 0, 5, 0), x -> x.looked(0, 8, 5, 0), x -> x.looked(0, 0, 0, 0),
            x -> x.looked(0, 0, 1000, 0), x -> x.looked(0, 0, 5, 3));
        bad("seldom", x -> x.seldom(4, 0), x -> x.seldom(0, 8));
        refused("over of an event that can not be counted", RefusedTest::some, BAD, x -> x.over(0, 1, 0, 0));
        refused("looked of an event that can not be counted", RefusedTest::some, BAD, x -> x.looked(0, 1, 5, 0));
        refused("seldom of an event that can not be counted", RefusedTest::some, BAD, x -> x.seldom(0, 1));
    }

    private static void badOfRuns() {
        bad("run", x -> x.run(-1, 0, 5), x -> x.run(4, 0, 5), x -> x.run(x.count(1), 0, 5), x -> x.run(0, -1, 5),
            x -> x.run(0, 8, 5), x -> x.run(0, 0, -1), x -> x.run(0, 0, 1000000));
        bad("wired", x -> x.wired(-1, 0, 0), x -> x.wired(4, 0, 0), x -> x.wired(0, 8, 0), x -> x.wired(0, 0, 9),
            x -> x.wired(0, 0, 46));
    }

    private static void badOfSheets() {
        bad("sheet", x -> x.sheet(-1, 0, 5), x -> x.sheet(4, 0, 5), x -> x.sheet(0, -1, 5), x -> x.sheet(0, 3, 5),
            x -> x.sheet(0, 0, 41), x -> x.sheet(1, 2, GREATEST), x -> x.sheet(4, 0, -1));
        bad("lay", x -> x.lay(-1, 0, 5), x -> x.lay(4, 0, 5));
        bad("said", x -> x.said(4, 0, 0, 0, 0), x -> x.said(0, 3, 0, 0, 0), x -> x.said(0, 0, 0, 8, 0),
            x -> x.said(0, 0, 0, 0, 4));
        bad("count", x -> x.count(-1), x -> x.count(6), x -> x.count(14), x -> x.count(24));
    }

    // ---- FULL, NONE, FAULTS

    private static void full() {
        refused("feed: full", RefusedTest::filled, FULL, x -> x.feed(0x2020202020202020L));
        refused("run: full", RefusedTest::filled, FULL, x -> x.run(0, 0, 5));
        for (int had = 313; had < 320; had++) {
            int n = had;
            refused("feed: eight more than " + n + " are too many", () -> {
                EventCounters x = filled();
                x.end(n);
                return x;
            }, FULL, x -> x.feed(-1));
        }
    }

    private static void none() {
        refused("ratio: none", RefusedTest::some, NONE, x -> x.ratio(0, 0, 7, 0));
        refused("went: none", RefusedTest::some, NONE, x -> x.went(0, 0, 999999));
        refused("hot: none", RefusedTest::some, NONE, x -> x.hot(6, 50, 0));
        refused("goes: none", RefusedTest::some, NONE, x -> x.goes(255, 0));
        refused("sliced: none", () -> countsNothing(some()), NONE, x -> x.sliced(1, 5, 0, 0));
        refused("scaled: none", () -> countsNothing(some()), NONE_SCALED, x -> x.scaled(1, 5, 0, 0));
        refused("scaled: no ticks", RefusedTest::some, NONE_SCALED, x -> x.scaled(0b1111, 999, 3, 0));
        refused("finest: none", () -> countsNothing(some()), NONE, x -> x.finest(1, 1, 9, 0));
        refused("rounds: none", () -> countsNothing(some()), NONE, x -> x.rounds(1, 0));
        refused("far: none", RefusedTest::some, NONE, x -> x.far(6, 1, 0, 0, 0));
        refused("truest: none", RefusedTest::some, NONE, x -> x.truest(6, 1, 9, 0));
        refused("seldom: none", () -> {
            EventCounters x = filled();
            x.width(0, 2);
            return x;
        }, NONE, x -> x.seldom(0, 2));
        refused("wired: none", RefusedTest::some, NONE, x -> x.wired(2, 2, 0));
    }

    private static EventCounters countsNothing(EventCounters x) {
        for (int c = 0; c < x.count(1); c++) {
            x.mask(c, 0);
        }
        return x;
    }

    private static void faultsOfSheets() {
        refused("sheet: size", -14, x -> x.sheet(0, 0, -1));
        refused("sheet: size of another lane", -14, x -> x.sheet(1, 2, LEAST));
        refused("lay: null", NEW, -11, x -> x.lay(0, 0, 5));
        refused("lay: null", RefusedTest::some, -11, x -> x.lay(3, 0, 5));
        refused("lay: index of no cells", RefusedTest::some, -12, x -> x.lay(2, 0, 5));
        refused("lay: index behind", RefusedTest::some, -12, x -> x.lay(0, 5, 5));
        refused("lay: index ahead", RefusedTest::some, -12, x -> x.lay(0, -1, 5));
        refused("lay: index behind 40", RefusedTest::filled, -12, x -> x.lay(3, 40, 5));
        refused("said: null", RefusedTest::some, -11, x -> x.said(3, 0, 0, 0, 0));
        refused("said: cast", RefusedTest::some, -13, x -> x.said(0, 1, 0, 0, 0));
        refused("said: index", RefusedTest::some, -12, x -> x.said(0, 0, 3, 0, 0));
        refused("said: below 0", () -> {
            EventCounters x = some();
            x.lay(0, 1, 200);
            return x;
        }, -21, x -> x.said(0, 0, 0, 0, 0));
    }

    /** THE TAPE is empty and the FAULT is told; "that which was told stays", RUNS too. */
    private static void faultsOfTexts() {
        String[] texts = {"line 1 b4;#", "line 1 b4; end;", "line 1 b100;", "line 1 b4 b4;", "loop2;".repeat(5),
            "loop 99;loop 99; line 1 b4;end;end;"};
        int[] places = {10, 11, 8, 10, 24, 35};
        int[] faults = {1, 2, 1, 4, 5, 6};
        for (int i = 0; i < texts.length; i++) {
            String text = texts[i];
            for (Life life : new Life[] {NEW, RefusedTest::some, RefusedTest::filled}) {
                Life empty = () -> {
                    EventCounters x = life.live();
                    x.end(0);
                    return x;
                };
                EventCounters x = empty.live();
                Due.due("program of " + text, Due.tell(x, text), -10 - places[i]);
                Due.due("fault of " + text, x.fault(), faults[i]);
                boolean other = empty.live().fault() != faults[i];
                same("program of " + text, empty, y -> Due.tell(y, text), other ? "fault" : "");
            }
        }
    }

    // ---- what only asks, and what each call that changes something leaves as it is

    private static void questionsChangeNothing() {
        Call[] calls = {x -> x.fault(), x -> x.line(0, 1), x -> x.step(0), x -> x.whole(10), x -> x.ratio(NONE, 0, 1, 0),
            x -> x.loop(0, 2), x -> x.went(0, 0, 10), x -> x.hot(0, 50, 1), x -> x.beside(0, 4), x -> x.together(3),
            x -> x.goes(3, 0), x -> x.rounds(255, 0), x -> x.sliced(255, 5, 0, 0), x -> x.scaled(255, 5, 0, 0),
            x -> x.finest(255, 1, 9, 0), x -> x.shows(0, 2, 0, 0, 0), x -> x.samples(0, 2, 0, 0, 2),
            x -> x.far(0, 2, 0, 0, 0), x -> x.truest(0, 1, 9, 0), x -> x.beats(0, 2, 0, 0), x -> x.over(0, 0, 0, 0),
            x -> x.looked(0, 0, 5, 0), x -> x.seldom(0, 0), x -> x.wired(0, 0, 0), x -> x.said(0, 0, 0, 0, 0),
            x -> x.count(0)};
        for (int i = 0; i < calls.length; i++) {
            same("question " + i + ", new", NEW, calls[i]);
            same("question " + i + ", some", RefusedTest::some, calls[i]);
            same("question " + i + ", filled", RefusedTest::filled, calls[i]);
        }
    }

    private static void changesOfTheTape() {
        same("feed", RefusedTest::some, x -> x.feed(0), "tape");
        same("end", RefusedTest::some, x -> x.end(4), "tape");
        same("end of all that there is", RefusedTest::some, x -> x.end(9));
        same("end of all 320", RefusedTest::filled, x -> x.end(320));
        same("feed and end", RefusedTest::some, x -> {
            x.feed(-1);
            return x.end(9);
        });
    }

    private static void changesOfCounters() {
        same("mask", RefusedTest::some, x -> x.mask(1, 1), "counters");
        same("the mask that it was", RefusedTest::some, x -> x.mask(0, 0b10110101));
        same("width", RefusedTest::some, x -> x.width(1, 9), "counters");
        same("the width that it was", RefusedTest::some, x -> x.width(0, 4));
        same("counters", RefusedTest::some, x -> x.counters(2), "counters", "runs");
        same("as many counters", RefusedTest::some, x -> x.counters(3), "counters", "runs");
        same("as many counters, new", NEW, x -> x.counters(2));
    }

    private static void changesOfRunsAndKept() {
        same("run", RefusedTest::some, x -> x.run(0, 0, 5), "runs");
        same("forget", RefusedTest::some, x -> x.forget(), "runs");
        same("forget of none", NEW, x -> x.forget());
        same("keep", RefusedTest::some, x -> x.keep(), "beside", "kept");
        same("keep of what was kept", RefusedTest::filled, x -> x.keep());
        same("keep of nothing", NEW, x -> x.keep());
    }

    private static void changesOfSheets() {
        same("sheet", RefusedTest::some, x -> x.sheet(1, 1, 40), "sheets");
        same("sheet of none", RefusedTest::some, x -> x.sheet(3, 0, 0), "sheets");
        same("sheet like a new one", RefusedTest::some, x -> x.sheet(2, 2, 0));
        same("lay", RefusedTest::some, x -> x.lay(0, 1, 99), "sheets");
        same("lay what is there", RefusedTest::some, x -> x.lay(0, 1, 4));
        same("lay what is there in its lowest bits", RefusedTest::some, x -> x.lay(0, 1, 256 + 4));
    }

    /** "RUNS are gone then (all else stays)": beside one that was told the text at first. */
    private static void aTextThatIsTaken() {
        String text = "line 9 c2; loop 5; line 3 a1 b1; end;";
        Life early = () -> {
            EventCounters x = Due.with("line 1 a6 h3;");
            x.keep();
            Due.tell(x, text);
            countersAndSheets(x);
            return x;
        };
        Life late = () -> {
            EventCounters x = Due.with("line 1 a6 h3;");
            x.keep();
            countersAndSheets(x);
            x.run(0, 0, 5);
            x.run(1, 3, 5);
            Due.tell(x, text);
            return x;
        };
        Map<String, List<Long>> want = lookAtAll(early.live());
        Map<String, List<Long>> got = lookAtAll(late.live());
        for (String part : want.keySet()) {
            Due.due("a text that is taken late: " + part, got.get(part).equals(want.get(part)) ? 1 : 0, 1);
        }
        Due.due("what runs there are", late.live().count(2), 0);
    }

    private static void countersAndSheets(EventCounters x) {
        x.counters(3);
        x.mask(1, 77);
        x.width(2, 5);
        someSheets(x);
    }
}
