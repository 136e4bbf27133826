/** Promises 15 to 23: COUNTERS, EVENTS that go together, ROUNDS, SLICES. */
final class CountersTest {
    private static final int BAD = EventCounters.BAD, NONE = EventCounters.NONE;
    private static final int LEAST = Integer.MIN_VALUE, GREATEST = Integer.MAX_VALUE;
    private static final long BAD_SCALED = -1000000000000L, NONE_SCALED = -1000000000004L;

    private CountersTest() {
    }

    public static void main(String[] args) {
        promise15();
        promise16();
        promise17();
        promise18();
        promise19();
        promise20();
        promise21();
        promise22();
        promise23();
        Due.close();
    }

    private static void due(String call, long got, long want) {
        Due.due(call, got, want);
    }

    /** An object with so many COUNTERS as there are MASKS. */
    private static EventCounters wired(String text, int... masks) {
        EventCounters x = Due.with(text);
        x.counters(masks.length);
        for (int c = 0; c < masks.length; c++) {
            x.mask(c, masks[c]);
        }
        return x;
    }

    private static void promise15() {
        EventCounters x = new EventCounters();
        x.mask(1, 9);
        x.width(0, 3);
        x.run(0, 0, 5);
        for (int bad : new int[] {LEAST, -1, 0, 5, GREATEST}) {
            due("15 bad", x.counters(bad), BAD);
        }
        due("15 a bad one changes nothing", x.count(11), 9);
        due("15 it was 2", x.counters(4), 2);
        due("15 four", x.count(1), 4);
        for (int c = 0; c < 4; c++) {
            due("15 mask", x.count(10 + c), 255);
            due("15 width", x.count(20 + c), 8);
        }
        due("15 runs are gone", x.count(2), 0);
        due("15 all eight in two", x.rounds(255, 0), 2);
        due("15 it was 4", x.counters(1), 4);
        due("15 none of the others", x.count(11), BAD);
        due("15 eight rounds", x.rounds(255, 0), 8);
    }

    private static void promise16() {
        EventCounters x = new EventCounters();
        due("16 was all", x.mask(0, 5), 255);
        due("16 was 5", x.mask(0, 0), 5);
        due("16 was none", x.mask(0, 255), 0);
        due("16 the other one", x.mask(1, 7), 255);
        for (int bad : new int[] {LEAST, -1, 2, 4, GREATEST}) {
            due("16 counter", x.mask(bad, 1), BAD);
        }
        for (int bad : new int[] {LEAST, -1, 256, GREATEST}) {
            due("16 events", x.mask(0, bad), BAD);
        }
        due("16 a bad one changes nothing", x.count(10), 255);
        due("16 together before", x.together(12), 1);
        x.mask(0, 4);
        due("16 together behind", x.together(12), 0);
        due("16 rounds behind", x.rounds(8, 0), NONE);
    }

    private static void promise17() {
        EventCounters x = new EventCounters();
        due("17 was 8", x.width(0, 2), 8);
        due("17 was 2", x.width(0, 16), 2);
        due("17 was 16", x.width(0, 9), 16);
        due("17 the other one", x.count(21), 8);
        for (int bad : new int[] {LEAST, -1, 0, 1, 17, GREATEST}) {
            due("17 width", x.width(0, bad), BAD);
        }
        for (int bad : new int[] {LEAST, -1, 2, 4, GREATEST}) {
            due("17 counter", x.width(bad, 4), BAD);
        }
        due("17 a bad one changes nothing", x.count(20), 9);
    }

    private static void promise18() {
        EventCounters x = wired("", 0b0011, 0b0110, 0b0010);
        due("18 none", x.together(0), 1);
        due("18 a", x.together(0b0001), 1);
        due("18 a b c", x.together(0b0111), 1);
        due("18 a c", x.together(0b0101), 1);
        due("18 d", x.together(0b1000), 0);
        due("18 a d", x.together(0b1001), 0);
        EventCounters y = wired("", 0b1111, 0b0001, 0b0001);
        due("18 a b", y.together(0b0011), 1);
        due("18 b c", y.together(0b0110), 0);
        due("18 a b c", y.together(0b0111), 0);
        due("18 more than there are", wired("", 255, 255).together(0b0111), 0);
        due("18 four", wired("", 255, 255, 255, 255).together(0b11110000), 1);
        for (int bad : new int[] {LEAST, -1, 256, GREATEST}) {
            due("18 bad", x.together(bad), BAD);
        }
    }

    private static void promise19() {
        EventCounters x = wired("", 0b0111, 0b0001, 0b0110);
        due("19 a", x.goes(0b0011, 0), 0);
        due("19 b", x.goes(0b0011, 1), 2);
        due("19 b alone", x.goes(0b0010, 1), 0);
        due("19 a b c: a", x.goes(0b0111, 0), 1);
        due("19 a b c: b", x.goes(0b0111, 1), 0);
        due("19 a b c: c", x.goes(0b0111, 2), 2);
        due("19 not together", x.goes(0b1001, 0), NONE);
        due("19 not together, the other", x.goes(0b1001, 3), NONE);
        due("19 not one of the set", x.goes(0b1001, 1), BAD);
        due("19 of the empty set", x.goes(0, 0), BAD);
        for (int bad : new int[] {LEAST, -1, 256, GREATEST}) {
            due("19 events", x.goes(bad, 0), BAD);
        }
        for (int bad : new int[] {LEAST, -1, 8, 32, GREATEST}) {
            due("19 event", x.goes(255, bad), BAD);
        }
        EventCounters four = wired("", 255, 255, 255, 255);
        for (int e = 4; e < 8; e++) {
            due("19 in order", four.goes(0b11110000, e), e - 4);
        }
    }

    private static void promise20() {
        EventCounters x = wired("", 0b00000011, 0b00000110);
        rounds(x, 0b0111, 0b0001, 0b0110);
        rounds(x, 0b0011, 0b0011);
        rounds(x, 0);
        due("20 d can not be counted", x.rounds(0b1111, 0), NONE);
        due("20 nor can its first round", x.rounds(0b1111, 10), NONE);
        EventCounters y = wired("", 255, 255, 255);
        rounds(y, 255, 0b00000011, 0b00011100, 0b11100000);
        rounds(y, 0b01011010, 0b00000010, 0b01011000);
        EventCounters z = wired("", 0b00001111, 0b11110000);
        rounds(z, 255, 0b00010001, 0b00100010, 0b01000100, 0b10001000);
        rounds(z, 0b00011111, 0b00000001, 0b00000010, 0b00000100, 0b00011000);
        rounds(wired("", 255), 0b10100001, 1, 32, 128);
        // b alone would leave a and c, which go together, but the least EVENT comes first.
        rounds(wired("", 0b001, 0b110), 0b111, 0b011, 0b100);
        rounds(wired("", 0b00010001, 0b01100110), 0b01000101, 0b00000101, 0b01000000);
        for (int bad : new int[] {LEAST, -1, 256, GREATEST}) {
            due("20 events", x.rounds(bad, 0), BAD);
        }
        for (int bad : new int[] {LEAST, -1, 1, 9, 18, GREATEST}) {
            due("20 what", x.rounds(7, bad), BAD);
        }
    }

    private static void rounds(EventCounters x, int events, int... sets) {
        due("20 how many for " + events, x.rounds(events, 0), sets.length);
        for (int i = 0; i < sets.length; i++) {
            due("20 round " + i + " for " + events, x.rounds(events, 10 + i), sets[i]);
        }
        due("20 one behind the last for " + events, x.rounds(events, 10 + sets.length), BAD);
    }

    // STEPS begin at 0 3 6 9 .. 27, end at 30; a 1 each, but 10 in the last; b 2 in the first five alone.
    private static final String SLOW = "loop 5; line 3 a1 b2; end; loop 4; line 3 a1; end; line 3 a10;";

    private static void promise21() {
        EventCounters x = wired(SLOW, 255);
        due("21 in its first slice: 0 3, 15 18", x.sliced(0b11, 7, 0, 0), 2 + 1 + 2 + 0);
        due("21 ticks: 0 3 6, 15 18, 28", x.sliced(0b11, 7, 0, 1), 15);
        due("21 in the second one", x.sliced(0b11, 7, 1, 0), 4);
        due("21 its ticks", x.sliced(0b11, 7, 1, 1), 15);
        due("21 of one round all", x.sliced(0b01, 7, 0, 0), 19);
        due("21 all ticks", x.sliced(0b01, 7, 0, 1), 30);
        due("21 a slice longer than all", x.sliced(0b11, 999, 0, 0), 19);
        due("21 nothing is left", x.sliced(0b11, 999, 1, 0), 0);
        due("21 nor ticks", x.sliced(0b11, 999, 1, 1), 0);
        due("21 a tick each", x.sliced(0b11, 1, 1, 0), 4);
        x.mask(0, 1);
        due("21 can not be", x.sliced(0b11, 7, 0, 0), NONE);
        due("21 not of the set", x.sliced(0b10, 7, 0, 0), BAD);
        for (int bad : new int[] {LEAST, -1, 256, GREATEST}) {
            due("21 events", x.sliced(bad, 7, 0, 0), BAD);
        }
        for (int bad : new int[] {LEAST, -1, 0, 1000, GREATEST}) {
            due("21 slice", x.sliced(0b11, bad, 0, 0), BAD);
        }
        for (int bad : new int[] {LEAST, -1, 8, 32, GREATEST}) {
            due("21 event", x.sliced(0b11, 7, bad, 0), BAD);
        }
        for (int bad : new int[] {LEAST, -1, 2, GREATEST}) {
            due("21 what", x.sliced(0b11, 7, 0, bad), BAD);
        }
    }

    private static void promise22() {
        EventCounters x = wired(SLOW, 255);
        scaled(x, 0b11, 7, 0, 10, 1, -9, 1);
        scaled(x, 0b11, 7, 1, 8, 1, -2, 1);
        // ROUND 0 has the STEPS at 0 and 3, 12 and 15, 24 and 27: 15 in 18 TICKS of 30.
        scaled(x, 0b11, 6, 0, 25, 1, 6, 1);
        scaled(x, 0b01, 999, 0, 19, 1, 0, 1);
        // Of three ROUNDS the first has the STEPS at 0, 9, 18, 27: 4 in 12 TICKS of 30.
        scaled(x, 0b1110, 3, 1, 10, 1, 0, 1);
        EventCounters z = wired("line 4 a1; line 3 a1; line 6 a2;", 255);
        // The STEPS at 0, 4, 7 are of the SLICES 0, 1, 1.
        scaled(z, 0b11, 4, 0, 13, 4, -3, 4);
        scaled(z, 0b11, 4, 1, 0, 1, 0, 1);
        // The first one has 1 TICK of 5.
        scaled(wired("line 1 a1; line 4 a4;", 255), 0b11, 1, 0, 5, 1, 0, 1);
        due("22 no ticks", x.scaled(0b11, 999, 1, 0), NONE_SCALED);
        due("22 no ticks, how far", x.scaled(0b11, 999, 1, 3), NONE_SCALED);
        due("22 an empty program", new EventCounters().scaled(1, 5, 0, 0), NONE_SCALED);
        EventCounters big = wired("loop 60;loop 99;line 20 a99 b1;end;end;", 255);
        due("22 great numbers", big.scaled(0b11, 999, 0, 0) > 0 ? 1 : 0, 1);
        x.mask(0, 1);
        due("22 can not be", x.scaled(0b11, 7, 0, 0), NONE_SCALED);
        due("22 not of the set", x.scaled(0b10, 7, 0, 0), BAD_SCALED);
        for (int bad : new int[] {LEAST, -1, 256, GREATEST}) {
            due("22 events", x.scaled(bad, 7, 0, 0), BAD_SCALED);
        }
        for (int bad : new int[] {LEAST, -1, 0, 1000, GREATEST}) {
            due("22 slice", x.scaled(0b11, bad, 0, 0), BAD_SCALED);
        }
        for (int bad : new int[] {LEAST, -1, 8, 32, GREATEST}) {
            due("22 event", x.scaled(0b11, 7, bad, 0), BAD_SCALED);
        }
        for (int bad : new int[] {LEAST, -1, 4, GREATEST}) {
            due("22 what", x.scaled(0b11, 7, 0, bad), BAD_SCALED);
        }
    }

    private static void scaled(EventCounters x, int events, int t, int e, long... want) {
        for (int what = 0; what < 4; what++) {
            due("22 scaled " + t + " " + e + " " + what, x.scaled(events, t, e, what), want[what]);
        }
    }

    private static void promise23() {
        EventCounters x = wired(SLOW, 255);
        due("23 of one round the least", x.finest(0b01, 5, 9, 0), 5);
        due("23 one alone", x.finest(0b11, 7, 7, 0), 7);
        due("23 one TICK is enough", wired("line 1 a1; line 4;", 255).finest(0b11, 1, 1, 0), 1);
        due("23 the last one", wired("line 5 a1; line 5; line 5; line 5;", 255).finest(0b11, 3, 4, 0), 4);
        due("23 one that has no ticks", x.finest(0b11, 999, 999, 1), NONE);
        due("23 those without ticks are left out", x.finest(0b11, 20, 219, 1), 20);
        due("23 an empty program", new EventCounters().finest(1, 1, 200, 0), NONE);
        due("23 two hundred", x.finest(0b11, 1, 200, 0) > 0 ? 1 : 0, 1);
        due("23 two hundred and one", x.finest(0b11, 1, 201, 0), BAD);
        due("23 the last two hundred", x.finest(0b01, 800, 999, 0), 800);
        due("23 the wrong way round", x.finest(0b11, 8, 7, 0), BAD);
        due("23 not of the set", x.finest(0b10, 7, 8, 0), BAD);
        x.mask(0, 1);
        due("23 can not be", x.finest(0b11, 7, 8, 0), NONE);
        for (int bad : new int[] {LEAST, -1, 0, 1000, GREATEST}) {
            due("23 from", x.finest(0b11, bad, 9, 0), BAD);
            due("23 to", x.finest(0b11, 900, bad, 0), BAD);
        }
        for (int bad : new int[] {LEAST, -1, 8, 32, GREATEST}) {
            due("23 event", x.finest(0b11, 7, 9, bad), BAD);
        }
        for (int bad : new int[] {LEAST, -1, 256, GREATEST}) {
            due("23 events", x.finest(bad, 7, 9, 0), BAD);
        }
    }
}
