/** Promises 24 to 31: SAMPLES, ROUND AND ROUND, COUNTERS that run over. */
final class SamplesTest {
    private static final int BAD = EventCounters.BAD, NONE = EventCounters.NONE;
    private static final int LEAST = Integer.MIN_VALUE, GREATEST = Integer.MAX_VALUE;

    // STEPS 0 1 2 2 1 2 2 1 2 2 1 2 2 3; a 1 2 . . 2 . . 2 . . 2 . . . (9), c . . 5 5 . 5 5 . 5 5 . 5 5 . (40)
    private static final String TEXT =
        "line 2 a1 b3; loop 4; line 1 a2; loop 2; line 2 c5; end; end; line 5 h9;";

    private SamplesTest() {
    }

    public static void main(String[] args) {
        promise24();
        promise25();
        promise26();
        promise27();
        promise28();
        promise29();
        promise30();
        promise31();
        Due.close();
    }

    private static void due(String call, long got, long want) {
        Due.due(call, got, want);
    }

    private static void shown(EventCounters x, int e, int p, int b, int k, int... lines) {
        for (int l = 0; l < lines.length; l++) {
            due("24 line " + l + " of one each " + p + " from " + b + " skid " + k, x.shows(e, p, b, k, l), lines[l]);
        }
    }

    private static void promise24() {
        EventCounters x = Due.with(TEXT);
        shown(x, 0, 1, 0, 0, 1, 8, 0, 0);
        shown(x, 0, 2, 0, 0, 0, 4, 0, 0);
        shown(x, 0, 2, 1, 0, 1, 4, 0, 0);
        shown(x, 0, 3, 2, 0, 1, 2, 0, 0);
        shown(x, 0, 9, 0, 0, 0, 1, 0, 0);
        shown(x, 0, 10, 0, 0, 0, 0, 0, 0);
        shown(x, 0, 10, 1, 0, 0, 1, 0, 0);
        shown(x, 0, 2, 0, 1, 0, 0, 4, 0);
        shown(x, 0, 2, 0, 3, 0, 3, 0, 1);
        shown(x, 0, 2, 0, 4, 0, 0, 3, 0);
        shown(x, 2, 1, 0, 0, 0, 0, 40, 0);
        shown(x, 2, 40, 0, 1, 0, 0, 0, 1);
        shown(x, 2, 40, 0, 2, 0, 0, 0, 0);
        shown(x, 7, 2, 0, 0, 0, 0, 0, 4);
        shown(x, 7, 9999, 9990, 0, 0, 0, 0, 1);
        shown(x, 5, 1, 0, 9, 0, 0, 0, 0);
        badSamples("24", (e, p, b, k) -> x.shows(e, p, b, k, 0), BAD);
        for (int bad : new int[] {LEAST, -1, 4, 16, GREATEST}) {
            due("24 line", x.shows(0, 2, 0, 0, bad), BAD);
        }
    }

    private interface Asked {
        long ask(int e, int p, int b, int k);
    }

    private static void badSamples(String promise, Asked call, long want) {
        for (int bad : new int[] {LEAST, -1, 8, GREATEST}) {
            due(promise + " event " + bad, call.ask(bad, 2, 0, 0), want);
        }
        for (int bad : new int[] {LEAST, -1, 0, 10000, GREATEST}) {
            due(promise + " period " + bad, call.ask(0, bad, 0, 0), want);
        }
        for (int bad : new int[] {LEAST, -1, 2, GREATEST}) {
            due(promise + " beginning " + bad, call.ask(0, 2, bad, 0), want);
        }
        for (int bad : new int[] {LEAST, -1, 10, GREATEST}) {
            due(promise + " skid " + bad, call.ask(0, 2, 0, bad), want);
        }
    }

    private static void samples(EventCounters x, int e, int p, int b, int k, int... want) {
        for (int what = 0; what < 6; what++) {
            due("25 one each " + p + " from " + b + " skid " + k + ": " + what, x.samples(e, p, b, k, what), want[what]);
        }
    }

    private static void promise25() {
        EventCounters x = Due.with(TEXT);
        samples(x, 0, 2, 0, 0, 4, 0, 0b0010, 0b0001, 0, 1);
        samples(x, 0, 1, 0, 0, 9, 0, 0b0011, 0, 0, 1);
        samples(x, 0, 2, 0, 1, 4, 0, 0b0100, 0b0011, 0b0100, 2);
        samples(x, 0, 2, 0, 3, 4, 0, 0b1010, 0b0001, 0b1000, 1);
        samples(x, 0, 2, 0, 4, 4, 1, 0b0100, 0b0011, 0b0100, 2);
        samples(x, 0, 1, 0, 9, 9, 4, 0b1110, 0b0001, 0b1100, 1);
        samples(x, 7, 1, 0, 1, 9, 9, 0, 0b1000, 0, NONE);
        samples(x, 5, 1, 0, 0, 0, 0, 0, 0, 0, NONE);
        samples(new EventCounters(), 0, 1, 0, 0, 0, 0, 0, 0, 0, NONE);
        samples(Due.with("line 1 a1; line 1 a2; line 1 a2;"), 0, 1, 0, 0, 5, 0, 7, 0, 0, 1);
        samples(Due.with("line 1 a3; line 1 a1;"), 0, 3, 0, 0, 1, 0, 0b01, 0b10, 0, 0);
        // Rows that were told two texts ago are not of this one.
        EventCounters y = Due.with("line 1 a1; line 1 a1;");
        y.program();
        Due.tell(y, "line 1 a1;");
        samples(y, 0, 2, 0, 0, 0, 0, 0, 0b0001, 0, NONE);
        badSamples("25", (e, p, b, k) -> x.samples(e, p, b, k, 0), BAD);
        for (int bad : new int[] {LEAST, -1, 6, GREATEST}) {
            due("25 what", x.samples(0, 2, 0, 0, bad), BAD);
        }
    }

    private static void far(EventCounters x, int e, int p, int b, int k, long above, long below) {
        due("26 above " + p + " " + b + " " + k, x.far(e, p, b, k, 0), above);
        due("26 below " + p + " " + b + " " + k, x.far(e, p, b, k, 1), below);
    }

    private static void promise26() {
        EventCounters x = Due.with(TEXT);
        far(x, 0, 1, 0, 0, 0, 1);
        far(x, 0, 2, 0, 0, 2, 9);
        far(x, 0, 2, 1, 0, 8, 45);
        far(x, 0, 2, 0, 1, 2, 1);
        far(x, 0, 2, 0, 3, 1, 2);
        far(Due.with("line 1; line 1 a1;"), 0, 1, 0, 0, 0, 1);
        due("26 all are lost", x.far(7, 1, 0, 1, 0), NONE);
        due("26 never made", x.far(5, 1, 0, 0, 1), NONE);
        due("26 too seldom", x.far(0, 10, 0, 0, 0), NONE);
        EventCounters most = Due.with("loop 60;loop 49;line 20 a98;line 1 a99;end;end;line 1 a1;");
        due("26 great numbers", most.far(0, 1, 0, 9, 1) > 0 ? 1 : 0, 1);
        badSamples("26", (e, p, b, k) -> x.far(e, p, b, k, 0), BAD);
        for (int bad : new int[] {LEAST, -1, 2, GREATEST}) {
            due("26 what", x.far(0, 2, 0, 0, bad), BAD);
        }
    }

    private static void promise27() {
        EventCounters x = Due.with(TEXT);
        due("27 each one is truest", x.truest(0, 1, 9, 0), 1);
        due("27 of two that are as far the least", x.truest(0, 2, 4, 0), 2);
        due("27 those that show nothing are left out", x.truest(0, 9, 208, 0), 9);
        due("27 the last one", x.truest(0, 9, 9, 0), 9);
        due("27 the last one is truest", Due.with("line 1 a3; line 1 a3;").truest(0, 2, 3, 0), 3);
        due("27 none shows something", x.truest(0, 10, 209, 0), NONE);
        due("27 never made", x.truest(5, 1, 200, 0), NONE);
        due("27 all lost", x.truest(7, 1, 200, 1), NONE);
        due("27 only line 2 makes c", x.truest(2, 3, 20, 0), 3);
        due("27 two hundred and one", x.truest(0, 1, 201, 0), BAD);
        due("27 the last ones", x.truest(0, 9800, 9999, 0), NONE);
        due("27 behind the last one", x.truest(0, 9801, 10000, 0), BAD);
        due("27 the wrong way round", x.truest(0, 9, 8, 0), BAD);
        badSamples("27", (e, p, b, k) -> b == 0 ? x.truest(e, p, p, k) : BAD, BAD);
        for (int bad : new int[] {LEAST, -1, 0, GREATEST}) {
            due("27 to", x.truest(0, 1, bad, 0), BAD);
        }
    }

    private static void beats(EventCounters x, int e, int p, int b, int... want) {
        for (int what = 0; what < 3; what++) {
            due("28 one each " + p + " from " + b + ": " + what, x.beats(e, p, b, what), want[what]);
        }
    }

    private static void promise28() {
        EventCounters x = Due.with(TEXT);
        beats(x, 0, 1, 0, 0b0011, 0, 1);
        beats(x, 0, 2, 0, 0b0011, 0, 2);
        beats(x, 0, 3, 0, 0b0010, 0b0001, 1);
        beats(x, 0, 3, 1, 0b0010, 0b0001, 1);
        beats(x, 0, 3, 2, 0b0011, 0, 1);
        beats(x, 0, 9, 0, 0b0010, 0b0001, 1);
        beats(x, 0, 9, 8, 0b0001, 0b0010, 1);
        beats(x, 0, 18, 0, 0b0010, 0b0001, 2);
        beats(x, 0, 18, 17, 0b0001, 0b0010, 2);
        beats(x, 0, 9999, 0, 0b0010, 0b0001, 1111);
        beats(x, 0, 9998, 0, 0b0011, 0, 9998);
        beats(x, 5, 9, 0, 0, 0, 0);
        beats(Due.with("line 1; line 1 a1;"), 0, 3, 0, 0b10, 0, 3);
        beats(new EventCounters(), 0, 1, 0, 0, 0, 0);
        badSamples("28", (e, p, b, k) -> k == 0 ? x.beats(e, p, b, 0) : BAD, BAD);
        for (int bad : new int[] {LEAST, -1, 3, GREATEST}) {
            due("28 what", x.beats(5, 2, 0, bad), BAD);
        }
    }

    private interface Likewise {
        long ask(int c, int e);
    }

    private static void badCounter(String promise, EventCounters x, Likewise call) {
        for (int bad : new int[] {LEAST, -1, 2, 4, GREATEST}) {
            due(promise + " counter " + bad, call.ask(bad, 0), BAD);
        }
        for (int bad : new int[] {LEAST, -1, 8, 32, GREATEST}) {
            due(promise + " event " + bad, call.ask(0, bad), BAD);
        }
        x.mask(0, 0b11111110);
        due(promise + " an event that it can not count", call.ask(0, 0), BAD);
        x.mask(0, 255);
    }

    private static void over(EventCounters x, int e, int v, int shows, int often) {
        due("29 shows " + e + " from " + v, x.over(0, e, v, 0), shows);
        due("29 ran over " + e + " from " + v, x.over(0, e, v, 1), often);
    }

    private static void promise29() {
        EventCounters x = Due.with(TEXT);
        over(x, 2, 0, 40, 0);
        over(x, 2, 215, 255, 0);
        over(x, 2, 216, 0, 1);
        over(x, 2, 255, 39, 1);
        x.width(0, 2);
        over(x, 2, 0, 0, 10);
        over(x, 2, 3, 3, 10);
        over(x, 0, 3, 0, 3);
        over(x, 5, 3, 3, 0);
        due("29 more than it holds", x.over(0, 2, 4, 0), BAD);
        x.width(0, 16);
        over(Due.with("line 1;"), 0, 255, 255, 0);
        over(x, 2, 65535, 39, 1);
        due("29 more than 16 bits", x.over(0, 2, 65536, 0), BAD);
        due("29 below", x.over(0, 2, -1, 0), BAD);
        due("29 least", x.over(0, 2, LEAST, 0), BAD);
        badCounter("29", x, (c, e) -> x.over(c, e, 0, 0));
        for (int bad : new int[] {LEAST, -1, 2, GREATEST}) {
            due("29 what", x.over(0, 0, 0, bad), BAD);
        }
    }

    private static void looked(EventCounters x, int e, int t, int told, int lost, int often) {
        due("30 told at each " + t, x.looked(0, e, t, 0), told);
        due("30 lost at each " + t, x.looked(0, e, t, 1), lost);
        due("30 how often at each " + t, x.looked(0, e, t, 2), often);
    }

    private static void promise30() {
        // STEPS begin at 0 4 8 12 16, end at 20.
        EventCounters x = Due.with("loop 5; line 4 a3; end;");
        x.width(0, 3);
        looked(x, 0, 1, 15, 0, 5);
        looked(x, 0, 4, 15, 0, 5);
        looked(x, 0, 5, 15, 0, 4);
        looked(x, 0, 8, 15, 0, 3);
        looked(x, 0, 10, 9 - 8 + 6, 8, 2);
        looked(x, 0, 16, 12 - 8 + 3, 8, 2);
        looked(x, 0, 17, 15 - 8, 8, 1);
        looked(x, 0, 999, 7, 8, 1);
        looked(x, 1, 10, 0, 0, 2);
        x.width(0, 2);
        looked(x, 0, 8, 2 + 2 + 3, 8, 3);
        looked(new EventCounters(), 0, 5, 0, 0, 1);
        badCounter("30", x, (c, e) -> x.looked(c, e, 5, 0));
        for (int bad : new int[] {LEAST, -1, 0, 1000, GREATEST}) {
            due("30 ticks", x.looked(0, 0, bad, 0), BAD);
        }
        for (int bad : new int[] {LEAST, -1, 3, GREATEST}) {
            due("30 what", x.looked(0, 0, 5, bad), BAD);
        }
    }

    private static EventCounters ofWidth(String text, int width) {
        EventCounters x = Due.with(text);
        x.width(0, width);
        return x;
    }

    private static void promise31() {
        EventCounters x = Due.with("loop 5; line 4 a3 b4 c8; end; line 4 d7; line 4 d7;");
        x.width(0, 3);
        due("31 two steps each", x.seldom(0, 0), 8);
        due("31 one step each", x.seldom(0, 1), 4);
        due("31 a step makes too many", x.seldom(0, 2), NONE);
        due("31 two steps at the end", x.seldom(0, 3), 24);
        due("31 one TICK each alone", ofWidth("line 1 a3; line 1 a3; line 1 a3;", 2).seldom(0, 0), 1);
        due("31 what was made before is of it", ofWidth("line 20 a1; line 20 a3;", 2).seldom(0, 0), 20);
        due("31 never made", x.seldom(0, 4), 999);
        x.width(0, 4);
        due("31 all in one", x.seldom(0, 0), 999);
        due("31 an empty program", new EventCounters().seldom(0, 0), 999);
        EventCounters y = ofWidth("line 20; line 20; line 20 a3; line 20 a3; line 20;", 2);
        due("31 greatest of several", y.seldom(0, 0), 60);
        badCounter("31", x, x::seldom);
    }
}
