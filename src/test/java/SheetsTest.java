/** Promises 32 to 38: RUNS and GUESSES, SHEETS and their FAULTS, how many there are. */
final class SheetsTest {
    private static final int BAD = EventCounters.BAD, FULL = EventCounters.FULL, NONE = EventCounters.NONE;
    private static final int NULL = -11, INDEX = -12, CAST = -13, SIZE = -14;
    private static final int LEAST = Integer.MIN_VALUE, GREATEST = Integer.MAX_VALUE;

    private SheetsTest() {
    }

    public static void main(String[] args) {
        promise32();
        promise33();
        promise34();
        promise35();
        promise36();
        promise37();
        promise38();
        Due.close();
    }

    private static void due(String call, long got, long want) {
        Due.due(call, got, want);
    }

    private static void promise32() {
        EventCounters x = Due.with("line 1 a5;");
        for (int bad : new int[] {LEAST, -1, 2, 4, GREATEST}) {
            due("32 counter", x.run(bad, 0, 5), BAD);
        }
        for (int bad : new int[] {LEAST, -1, 8, GREATEST}) {
            due("32 event", x.run(0, bad, 5), BAD);
        }
        for (int bad : new int[] {LEAST, -1, 1000000, GREATEST}) {
            due("32 shown", x.run(0, 0, bad), BAD);
        }
        for (int i = 1; i <= 12; i++) {
            due("32 run " + i, x.run(i % 2, i % 8, i == 1 ? 0 : 999999), i);
        }
        due("32 full", x.run(0, 0, 5), FULL);
        due("32 bad ahead of full", x.run(0, 0, -1), BAD);
        due("32 twelve", x.count(2), 12);
        x.forget();
        x.mask(0, 0);
        x.width(0, 2);
        due("32 no mask and no width matters", x.run(0, 0, 999999), 1);
    }

    private static void promise33() {
        EventCounters x = Due.with("line 1 a5;");
        due("33 none", x.forget(), 0);
        x.run(0, 0, 5);
        x.run(1, 0, 5);
        due("33 two", x.forget(), 2);
        due("33 gone", x.count(2), 0);
        due("33 none of that event", x.wired(0, 0, 0), NONE);
        due("33 from the beginning", x.run(0, 0, 5), 1);
    }

    private static void guesses(EventCounters x, int c, int e, int... sets) {
        due("34 how many " + c + " " + e, x.wired(c, e, 0), sets.length);
        for (int i = 0; i < sets.length; i++) {
            due("34 guess " + i + " " + c + " " + e, x.wired(c, e, 10 + i), sets[i]);
        }
        due("34 behind the last " + c + " " + e, x.wired(c, e, 10 + sets.length), BAD);
    }

    private static void promise34() {
        EventCounters x = Due.with("line 1 a5 b3 c2 d5 e1; loop 2; line 1 e2; end;");
        due("34 no run", x.wired(0, 0, 0), NONE);
        due("34 no guess without a run", x.wired(0, 0, 10), BAD);
        x.run(0, 0, 5);
        // a, d, e alone; b and c, each of a d e with one of f g h
        guesses(x, 0, 0, 1, 8, 16, 6, 33, 40, 48, 65, 72, 80, 129, 136, 144);
        due("34 no run of that event", x.wired(0, 1, 0), NONE);
        due("34 no run of that counter", x.wired(1, 0, 0), NONE);
        x.run(0, 0, 5);
        due("34 the same once more", x.wired(0, 0, 0), 13);
        x.run(0, 0, 6);
        guesses(x, 0, 0);
        x.run(1, 0, 7);
        guesses(x, 1, 0, 0b00000101, 0b00001100, 0b00010100);
        x.run(1, 2, 0);
        guesses(x, 1, 2, 32, 64, 128, 96, 160, 192);
        x.program();
        x.run(0, 0, 0);
        due("34 all", x.wired(0, 0, 0), 36);
        due("34 the first of two", x.wired(0, 0, 18), 3);
        due("34 the last one", x.wired(0, 0, 45), 192);
        due("34 behind all", x.wired(0, 0, 46), BAD);
        for (int bad : new int[] {LEAST, -1, 2, 4, GREATEST}) {
            due("34 counter", x.wired(bad, 0, 0), BAD);
        }
        for (int bad : new int[] {LEAST, -1, 8, GREATEST}) {
            due("34 event", x.wired(0, bad, 0), BAD);
        }
        for (int bad : new int[] {LEAST, -1, 1, 9, GREATEST}) {
            due("34 what", x.wired(0, 0, bad), BAD);
            due("34 what without a run", x.wired(1, 0, bad), BAD);
        }
    }

    private static void promise35() {
        EventCounters x = Due.with("line 1;");
        due("35 bytes", x.sheet(0, 0, 3), 1);
        x.lay(0, 0, 7);
        for (int bad : new int[] {LEAST, -1, 4, GREATEST}) {
            due("35 sheet", x.sheet(bad, 0, -1), BAD);
        }
        for (int bad : new int[] {LEAST, -1, 3, GREATEST}) {
            due("35 lane", x.sheet(0, bad, -1), BAD);
        }
        for (int bad : new int[] {41, GREATEST}) {
            due("35 cells", x.sheet(0, 0, bad), BAD);
        }
        for (int bad : new int[] {LEAST, -1}) {
            due("35 size", x.sheet(0, 0, bad), SIZE);
        }
        due("35 the old one stays", x.count(4), 3);
        due("35 its cells stay", x.said(0, 0, 0, 0, 2), 7);
        due("35 anew", x.sheet(0, 0, 40), 1);
        due("35 forty", x.count(4), 40);
        due("35 cells of naught", x.said(0, 0, 0, 0, 2), 0);
        due("35 all cells", x.said(0, 0, 39, 0, 0), 1);
        due("35 no cells", x.sheet(0, 2, 0), 1);
        due("35 none", x.count(4), 0);
        due("35 no cell", x.lay(0, 0, 1), INDEX);
        due("35 the last one", x.sheet(3, 1, 1), 1);
        due("35 a cell", x.lay(3, 0, 1), 1);
        due("35 the others are nothing", x.lay(2, 0, 1), NULL);
    }

    private static void laid(int lane, int v, int told) {
        EventCounters x = Due.with("line 1;");
        x.sheet(1, lane, 1);
        due("36 lay " + v, x.lay(1, 0, v), 1);
        due("36 lane " + lane + " has of " + v, x.said(1, lane, 0, 0, 2), told);
    }

    private static void promise36() {
        laid(0, 127, 127);
        laid(0, 128, -20);
        laid(0, 255, -20);
        laid(0, 256, 0);
        laid(0, 257, 1);
        laid(0, -1, -20);
        laid(0, -256, 0);
        laid(1, 32767, 32767);
        laid(1, 32768, -20);
        laid(1, 65536 + 300, 300);
        laid(2, 65536 + 300, 65836);
        laid(2, 999999, 999999);
        laid(2, 1000000, -20);
        laid(2, LEAST, -20);
        laid(2, GREATEST, -20);
        laid(1, GREATEST, -20);
        laid(1, LEAST, 0);
        EventCounters x = Due.with("line 1;");
        for (int bad : new int[] {LEAST, -1, 4, GREATEST}) {
            due("36 sheet", x.lay(bad, 0, 1), BAD);
        }
        for (int i : new int[] {LEAST, -1, 0, GREATEST}) {
            due("36 nothing", x.lay(0, i, 1), NULL);
        }
        x.sheet(0, 0, 2);
        for (int i : new int[] {LEAST, -1, 2, 40, GREATEST}) {
            due("36 index", x.lay(0, i, 1), INDEX);
        }
        due("36 the last cell", x.lay(0, 1, 9), 1);
        due("36 it is that one", x.said(0, 0, 1, 0, 2), 9);
        due("36 not the other", x.said(0, 0, 0, 0, 2), 0);
    }

    private static void said(EventCounters x, int first, int e, int... want) {
        for (int what = 0; what < 4; what++) {
            due("37 said from " + first + ": " + what, x.said(2, 1, first, e, what), want[what]);
        }
    }

    private static void promise37() {
        EventCounters x = Due.with("line 1 a5; loop 3; line 1 a2; end; line 1 b9;");
        due("37 nothing", x.said(2, 1, 0, 0, 0), NULL);
        x.sheet(2, 1, 6);
        for (int i = 0; i < 6; i++) {
            x.lay(2, i, new int[] {4, 5, 6, 0, 9, 1}[i]);
        }
        said(x, 1, 0, 3, NONE, 0, 0);
        said(x, 0, 0, 0, 0, 6, 2);
        said(x, 2, 0, 0, 0, 10, 6);
        said(x, 3, 0, 0, 0, 4, 5);
        said(x, 2, 1, 2, 0, 6, 0);
        due("37 too far", x.said(2, 1, 4, 0, 0), INDEX);
        due("37 far too far", x.said(2, 1, GREATEST, 0, 0), INDEX);
        due("37 ahead", x.said(2, 1, -1, 0, 0), INDEX);
        due("37 far ahead", x.said(2, 1, LEAST, 0, 0), INDEX);
        due("37 another lane", x.said(2, 0, 4, 0, 0), CAST);
        x.lay(2, 5, -1);
        due("37 below, ahead of the index", x.said(2, 1, 4, 0, 0), -21);
        due("37 index, ahead of below", x.said(2, 1, -3, 0, 0), INDEX);
        due("37 the third line", x.said(2, 1, 3, 0, 0), -22);
        x.sheet(3, 2, 3);
        x.lay(3, 1, 1000000);
        due("37 above", x.said(3, 2, 0, 0, 3), -21);
        x.lay(3, 1, 999999);
        due("37 just so", x.said(3, 2, 0, 0, 2), 999993);
        x.sheet(1, 1, 0);
        due("37 no cells", x.said(1, 1, 0, 0, 0), INDEX);
        due("37 no cells of another lane", x.said(1, 2, 0, 0, 0), CAST);
        for (int bad : new int[] {LEAST, -1, 4, GREATEST}) {
            due("37 sheet", x.said(bad, 1, 0, 0, 0), BAD);
        }
        for (int bad : new int[] {LEAST, -1, 3, GREATEST}) {
            due("37 lane", x.said(2, bad, 0, 0, 0), BAD);
        }
        for (int bad : new int[] {LEAST, -1, 8, GREATEST}) {
            due("37 event, ahead of NULL", x.said(0, 0, 0, bad, 0), BAD);
        }
        for (int bad : new int[] {LEAST, -1, 4, GREATEST}) {
            due("37 what, ahead of NULL", x.said(0, 0, 0, 0, bad), BAD);
        }
        x.program();
        due("37 nothing without lines", x.said(0, 1, 0, 0, 0), NULL);
        due("37 another lane without lines", x.said(2, 0, 0, 0, 0), CAST);
        said(x, LEAST, 0, 0, NONE, 0, 0);
        said(x, GREATEST, 0, 0, NONE, 0, 0);
    }

    private static void promise38() {
        EventCounters x = Due.with("line 1; loop 2; line 1; loop 3; end; end; loop 4; end;");
        x.feed(0);
        x.end(5);
        x.run(0, 0, 1);
        x.counters(3);
        x.run(0, 0, 1);
        x.run(0, 0, 1);
        x.mask(1, 77);
        x.width(2, 13);
        due("38 nothing", x.count(4), NONE);
        x.sheet(1, 0, 9);
        due("38 another sheet", x.count(4), NONE);
        x.sheet(0, 2, 17);
        for (int what = 0; what < 6; what++) {
            due("38 how many " + what, x.count(what), new int[] {2, 3, 2, 5, 17, 3}[what]);
        }
        for (int c = 0; c < 3; c++) {
            due("38 mask", x.count(10 + c), new int[] {255, 77, 255}[c]);
            due("38 width", x.count(20 + c), new int[] {8, 8, 13}[c]);
        }
        for (int bad : new int[] {LEAST, -1, 6, 9, 13, 14, 19, 23, 24, GREATEST}) {
            due("38 what", x.count(bad), BAD);
        }
    }
}
