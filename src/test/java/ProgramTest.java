/** Promises 1 to 14: THE TAPE, the text, THE PROGRAM, and it beside an earlier one. */
final class ProgramTest {
    private static final int BAD = EventCounters.BAD, FULL = EventCounters.FULL, NONE = EventCounters.NONE;
    private static final int LEAST = Integer.MIN_VALUE, GREATEST = Integer.MAX_VALUE;

    // 14 STEPS, 27 TICKS; a 9, b 3, c 40, h 9.
    private static final String TEXT =
        "line 2 a1 b3; loop 4; line 1 a2; loop 2; line 2 c5; end; end; line 5 h9;";

    private ProgramTest() {
    }

    public static void main(String[] args) {
        promise1();
        promise2();
        promise3();
        promise4();
        promise5();
        faultsInOrder();
        tokens();
        bounds();
        promise6();
        promise7();
        promise8();
        promise9();
        promise10();
        promise11();
        promise12();
        promise13();
        promise14();
        Due.close();
    }

    private static void due(String call, long got, long want) {
        Due.due(call, got, want);
    }

    private static void promise1() {
        EventCounters x = new EventCounters();
        due("1 BAD", EventCounters.BAD, -1);
        due("1 STATE", EventCounters.STATE, -2);
        due("1 FULL", EventCounters.FULL, -3);
        due("1 NONE", EventCounters.NONE, -4);
        for (int what = 0; what < 6; what++) {
            due("1 count " + what, x.count(what), new int[] {0, 2, 0, 0, NONE, 0}[what]);
        }
        for (int c = 0; c < 2; c++) {
            due("1 mask", x.count(10 + c), 255);
            due("1 width", x.count(20 + c), 8);
        }
        due("1 fault", x.fault(), 0);
        due("1 steps", x.whole(0), 0);
        due("1 ticks", x.whole(1), 0);
        due("1 no line", x.line(0, 0), BAD);
        due("1 no loop", x.loop(0, 0), BAD);
        due("1 nothing kept", x.beside(0, 1), 0);
        due("1 no runs", x.forget(), 0);
        for (int k = 0; k < 4; k++) {
            due("1 no sheet", x.lay(k, 0, 1), -11);
        }
    }

    private static void promise2() {
        EventCounters x = new EventCounters();
        for (int i = 1; i <= 40; i++) {
            due("2 feed " + i, x.feed(0), 8 * i);
        }
        due("2 full", x.feed(0), FULL);
        due("2 full changes nothing", x.count(3), 320);
        due("2 end", x.end(313), 320);
        due("2 313 and 8", x.feed(0), FULL);
        due("2 end", x.end(312), 313);
        due("2 312 and 8", x.feed(0), 320);
        due("2 highest first", x.end(0), 320);
        // "line 1 a" then "5;" and rubbish that end() cuts off
        due("2 first", x.feed(0x6c696e6520312061L), 8);
        due("2 second", x.feed(0x353bffffffffffffL), 16);
        x.end(10);
        due("2 program", x.program(), 1);
        due("2 event", x.whole(10), 5);
    }

    private static void promise3() {
        EventCounters x = new EventCounters();
        due("3 empty", x.end(0), 0);
        due("3 one more than none", x.end(1), BAD);
        x.feed(-1);
        due("3 below", x.end(-1), BAD);
        due("3 least", x.end(LEAST), BAD);
        due("3 above", x.end(9), BAD);
        due("3 greatest", x.end(GREATEST), BAD);
        due("3 all stay", x.end(8), 8);
        due("3 some", x.end(3), 8);
        due("3 fewer", x.count(3), 3);
        due("3 again", x.end(0), 3);
        due("3 none", x.count(3), 0);
    }

    private static void promise4() {
        EventCounters x = new EventCounters();
        due("4 lines", Due.tell(x, TEXT), 4);
        due("4 the tape is empty", x.count(3), 0);
        x.run(0, 0, 1);
        x.keep();
        due("4 by a fault", Due.tell(x, "line 1; #"), -18);
        due("4 the tape is empty by a fault", x.count(3), 0);
        due("4 what was told stays", x.count(0), 4);
        due("4 loops stay", x.count(5), 2);
        due("4 steps stay", x.whole(0), 14);
        due("4 runs stay by a fault", x.count(2), 1);
        x.mask(0, 3);
        x.width(1, 5);
        x.sheet(0, 0, 4);
        due("4 taken", Due.tell(x, "line 1;"), 1);
        due("4 in place of it", x.whole(0), 1);
        due("4 no loops", x.count(5), 0);
        due("4 events of the old line are gone", x.line(0, 10), 0);
        due("4 taken again", Due.tell(x, "line 1;"), 1);
        due("4 events of the line before that, too", x.whole(10), 0);
        due("4 runs are gone", x.count(2), 0);
        due("4 kept stays", x.beside(0, 1), 9);
        due("4 masks stay", x.count(10), 3);
        due("4 widths stay", x.count(21), 5);
        due("4 sheets stay", x.count(4), 4);
        due("4 empty text", x.program(), 0);
        due("4 empty program", x.count(0), 0);
        due("4 blanks", Due.tell(x, "    "), 0);
        due("4 no blanks", Due.tell(x, "line1a1b2;loop3;line2;end;"), 2);
        due("4 many blanks", Due.tell(x, "  line  1  a  1  ;   loop  3  ;  end  ;  "), 1);
        due("4 loop without lines", Due.tell(x, "loop 99;loop 99;loop 99;loop 99;end;end;end;end;"), 0);
        due("4 loops", x.count(5), 4);
    }

    private static void promise5() {
        EventCounters x = new EventCounters();
        fault(x, "line 1; ~", 1, 8);
        due("5 taken", Due.tell(x, "line 1;"), 1);
        due("5 no fault", x.fault(), 0);
        fault(x, "line", 2, 4);
        due("5 again", x.fault(), 2);
        due("5 the empty text", x.program(), 0);
        due("5 none", x.fault(), 0);
    }

    private static void fault(EventCounters x, String text, int number, int place) {
        due("4 place in " + text, Due.tell(x, text), -10 - place);
        due("5 fault of " + text, x.fault(), number);
    }

    private static void faultsInOrder() {
        EventCounters x = new EventCounters();
        fault(x, "foo #", 2, 0);
        fault(x, "foo 123", 2, 0);
        fault(x, "line #", 1, 5);
        fault(x, "line 21 #", 3, 5);
        fault(x, "line 1 a a", 2, 9);
        fault(x, "line 1 a1 a#", 4, 10);
        fault(x, "line 1 b1 b1", 4, 10);
        fault(x, "line 1 b1 c1 a1 b1", 4, 16);
        fault(x, "line 1 a1 i1", 3, 10);
        fault(x, "end", 2, 0);
        fault(x, "loop 2; end; end;", 2, 13);
        fault(x, "loop 2; end", 2, 11);
        fault(x, "loop 2; end end", 2, 12);
        fault(x, "loop 2; line 1;", 2, 15);
        fault(x, "loop 2; line 1;   ", 2, 18);
        fault(x, "loop 2", 2, 6);
        fault(x, "loop 2 line", 2, 7);
        fault(x, "loop", 2, 4);
        fault(x, "loop a", 2, 5);
        fault(x, "line ;", 2, 5);
        fault(x, "line 1", 2, 6);
        fault(x, "line 1 a", 2, 8);
        fault(x, "line 1 a;", 2, 8);
        fault(x, "line 1 a1", 2, 9);
        fault(x, "line 1 2", 2, 7);
        fault(x, "line 1 a1 2;", 2, 10);
        fault(x, "line 1; 5", 2, 8);
        fault(x, "line 1; ;", 2, 8);
        fault(x, "line 1 end;", 3, 7);
        fault(x, "line 1 ab1;", 3, 7);
        fault(x, "Line 1;", 1, 0);
        fault(x, "lines 1;", 2, 0);
        fault(x, "lin 1;", 2, 0);
        fault(x, "linea 1;", 2, 0);
        fault(x, "fine 1;", 2, 0);
        fault(x, "coop 1; end;", 2, 0);
        fault(x, "loop 1; and;", 2, 8);
        fault(x, "loop 1; line 100;", 1, 13);
        fault(x, "line 1 a100;", 1, 8);
        fault(x, "line 1 a000;", 1, 8);
    }

    private static void tokens() {
        EventCounters x = new EventCounters();
        fault(x, "line 1 a1.", 1, 9);
        fault(x, "line\t1;", 1, 4);
        fault(x, "line" + (char) 0, 1, 4);
        fault(x, (char) 255 + "line 1;", 1, 0);
        fault(x, "line 1" + (char) 187, 1, 6);
        fault(x, "line 1`", 1, 6);
        fault(x, "line 1{", 1, 6);
        fault(x, "line 1/", 1, 6);
        fault(x, "line 1:", 1, 6);
        due("4 names and numbers need none between", Due.tell(x, "line07a09h99;"), 1);
        due("4 leading naught", x.line(0, 0), 7);
        cutOff(x, "loop 25;", 6);
        cutOff(x, "linelines", 4);
        due("4 a figure that was cut off", Due.tell(x, "line 1;"), 1);
        due("4 what was cut off is no more", Due.tell(x, "line 07a09h99;"), 1);
        due("4 a09", x.line(0, 10), 9);
        due("4 h99", x.line(0, 17), 99);
    }

    /** What stands behind the end of THE TAPE is none of it. */
    private static void cutOff(EventCounters x, String text, int length) {
        Due.write(x, text);
        x.end(length);
        due("4 place in what is left of " + text, x.program(), -10 - length);
        due("5 fault of what is left of " + text, x.fault(), 2);
    }

    private static void bounds() {
        EventCounters x = new EventCounters();
        fault(x, "line 0;", 3, 5);
        due("4 ticks 1", Due.tell(x, "line 1;"), 1);
        due("4 ticks 20", Due.tell(x, "line 20;"), 1);
        fault(x, "line 21;", 3, 5);
        due("4 events 0", Due.tell(x, "line 1 a0;"), 1);
        fault(x, "line 1 a0 a1;", 4, 10);
        fault(x, "loop 0;", 3, 5);
        due("4 loop 1", Due.tell(x, "loop 1;end;"), 0);
        due("4 loop 99", Due.tell(x, "loop 99;end;"), 0);
        fault(x, "line 1 z1;", 3, 7);
        due("4 all events", Due.tell(x, "line 1 h1g2f3e4d5c6b7a8;"), 1);
        due("4 event h", x.line(0, 17), 1);
        due("4 event a", x.line(0, 10), 8);
        fault(x, "line 1 h1g2f3e4d5c6b7a8 a1;", 4, 24);
        String sixteen = "line1;line1;line1;line1;line1;line1;line1;line1;".repeat(2);
        due("4 sixteen lines", Due.tell(x, sixteen), 16);
        fault(x, sixteen + "line#", 5, 96);
        fault(x, "loop2;loop2;loop2;loop2; loop#", 5, 25);
        due("4 four deep, often", Due.tell(x, "loop2;loop2;loop2;loop2;end;loop2;line1;end;end;end;end;"), 1);
        due("4 come to", x.loop(4, 3), 8);
        due("4 thirty-two loops", Due.tell(x, "loop1;end;".repeat(32)), 0);
        due("4 loops", x.count(5), 32);
        due("4 6000 steps", Due.tell(x, "loop 60;loop 50;line 1;line 1;end;end;"), 2);
        due("4 steps", x.whole(0), 6000);
        due("4 last", x.step(5999), 1);
        fault(x, "loop 60;loop 50;line 1;line 1;end;end;line 1; ", 6, 46);
        fault(x, "loop 60;loop 50;line 1;line 1;end;end;line 1; end;", 2, 46);
        fault(x, "loop 99;loop 99;loop 99;loop 99;line 1;line 1;line 1;end;end;end;end;", 6, 69);
        due("4 that which was told stays", x.whole(0), 6000);
    }

    private static void promise6() {
        EventCounters x = Due.with(TEXT);
        int[][] want = {{2, 1, 0}, {1, 4, 1}, {2, 8, 2}, {5, 1, 0}};
        for (int l = 0; l < 4; l++) {
            for (int what = 0; what < 3; what++) {
                due("6 line " + l + " " + what, x.line(l, what), want[l][what]);
            }
        }
        due("6 a", x.line(0, 10), 1);
        due("6 b", x.line(0, 11), 3);
        due("6 c each time", x.line(2, 12), 5);
        due("6 h", x.line(3, 17), 9);
        due("6 none", x.line(3, 16), 0);
        for (int what : new int[] {LEAST, -1, 3, 9, 18, GREATEST}) {
            due("6 what", x.line(0, what), BAD);
        }
        for (int l : new int[] {LEAST, -1, 4, 16, GREATEST}) {
            due("6 no line", x.line(l, 0), BAD);
        }
    }

    private static void promise7() {
        EventCounters x = Due.with(TEXT);
        int[] want = {0, 1, 2, 2, 1, 2, 2, 1, 2, 2, 1, 2, 2, 3};
        for (int i = 0; i < 14; i++) {
            due("7 step " + i, x.step(i), want[i]);
        }
        for (int i : new int[] {LEAST, -1, 14, 6000, GREATEST}) {
            due("7 no step", x.step(i), BAD);
        }
    }

    private static void promise8() {
        EventCounters x = Due.with(TEXT);
        due("8 steps", x.whole(0), 14);
        due("8 ticks", x.whole(1), 27);
        int[] want = {9, 3, 40, 0, 0, 0, 0, 9};
        for (int e = 0; e < 8; e++) {
            due("8 event " + e, x.whole(10 + e), want[e]);
        }
        for (int what : new int[] {LEAST, -1, 2, 9, 18, GREATEST}) {
            due("8 what", x.whole(what), BAD);
        }
        EventCounters most = Due.with("loop 60;loop 99;line 20 a99;end;end;");
        due("8 most ticks", most.whole(1), 118800);
        due("8 most events", most.whole(10), 588060);
    }

    private static void promise9() {
        EventCounters x = Due.with("line 1 a6 b4; loop 3; line 1 b2 c99; end;");
        ratio(x, 0, 0, 1, 3, 2);
        ratio(x, 0, 1, 0, 2, 3);
        ratio(x, 0, 0, 0, 1, 1);
        ratio(x, 0, 2, 1, 0, 1);
        ratio(x, 1, 2, 1, 99, 2);
        ratio(x, NONE, 0, 1, 3, 5);
        ratio(Due.with("line 1 a3 b1;"), 0, 0, 1, 3, 1);
        ratio(Due.with("line 1 a3 b1;"), NONE, 1, 0, 1, 3);
        ratio(x, NONE, 2, 1, 297, 10);
        due("9 no such event made by the line", x.ratio(1, 1, 0, 0), NONE);
        due("9 not made at all", x.ratio(NONE, 0, 7, 1), NONE);
        due("9 neither", x.ratio(0, 7, 6, 0), NONE);
        for (int bad : new int[] {LEAST, -1, 8, GREATEST}) {
            due("9 e", x.ratio(0, bad, 0, 0), BAD);
            due("9 f", x.ratio(0, 0, bad, 0), BAD);
        }
        for (int bad : new int[] {LEAST, -5, -3, -1, 2, GREATEST}) {
            due("9 line", x.ratio(bad, 0, 1, 0), BAD);
        }
        for (int bad : new int[] {LEAST, -1, 2, GREATEST}) {
            due("9 what, ahead of NONE", x.ratio(0, 0, 7, bad), BAD);
        }
    }

    private static void ratio(EventCounters x, int l, int e, int f, int above, int below) {
        due("9 above " + l + " " + e + " " + f, x.ratio(l, e, f, 0), above);
        due("9 below " + l + " " + e + " " + f, x.ratio(l, e, f, 1), below);
    }

    private static void promise10() {
        EventCounters x = Due.with("loop 3; line 1; loop 2; line 1; line 1; end; loop 5; end; end; loop 7; line 1; end;");
        int[][] want = {
            {3, 0, 0b0111, 1, 15}, {2, 1, 0b0110, 3, 12}, {5, 1, 0, 3, 0}, {7, 0, 0b1000, 1, 7}};
        for (int q = 0; q < 4; q++) {
            for (int what = 0; what < 5; what++) {
                due("10 loop " + q + " " + what, x.loop(q, what), want[q][what]);
            }
        }
        for (int bad : new int[] {LEAST, -1, 4, 40, GREATEST}) {
            due("10 no loop", x.loop(bad, 0), BAD);
        }
        for (int bad : new int[] {LEAST, -1, 5, GREATEST}) {
            due("10 what", x.loop(0, bad), BAD);
        }
        EventCounters deep = Due.with("loop 2; loop 3; loop 4; loop 5; line 1; end; end; end; end;");
        due("10 around", deep.loop(3, 1), 3);
        due("10 come to", deep.loop(3, 3), 24);
        EventCounters all = Due.with("loop 1;" + "line1;".repeat(16) + "end;");
        due("10 all lines", all.loop(0, 2), 65535);
    }

    private static void promise11() {
        EventCounters x = Due.with(TEXT);
        due("11 as it is", x.went(0, 0, 9), 4);
        due("11 more", x.went(0, 0, 21), 10);
        due("11 not whole", x.went(0, 0, 20), NONE);
        due("11 none at all", x.went(0, 0, 1), 0);
        due("11 less than the rest", x.went(0, 0, 0), NONE);
        due("11 inner", x.went(1, 2, 60), 3);
        due("11 outer", x.went(0, 2, 60), 6);
        due("11 outer has no such event, it is so", x.went(0, 1, 3), 0);
        due("11 outer has no such event, it is not so", x.went(0, 1, 4), NONE);
        due("11 inner has no such event", x.went(1, 0, 9), 0);
        due("11 never made", x.went(0, 5, 0), 0);
        due("11 never made, told", x.went(0, 5, 1), NONE);
        EventCounters once = Due.with("loop 1; line 1 a1; end; line 1 a1;");
        due("11 a loop that tells once, an event each time", once.went(0, 0, 8), 7);
        due("11 never", once.went(0, 0, 1), 0);
        due("11 most", x.went(0, 0, 1 + 2 * 9999), 9999);
        due("11 too often", x.went(0, 0, 1 + 2 * 10000), NONE);
        EventCounters y = Due.with("loop 99; line 1 a99 b90; end; line 1 b9;");
        due("11 the greatest total", y.went(0, 0, 999999), 10101 <= 9999 ? 10101 : NONE);
        due("11 most of 99", y.went(0, 0, 989901), 9999);
        due("11 by steps that are too many", y.went(0, 1, 9 + 90 * 9999), 9999);
        due("11 total", y.went(0, 1, 999999), NONE);
        for (int bad : new int[] {LEAST, -1, 1000000, GREATEST}) {
            due("11 bad total", x.went(0, 0, bad), BAD);
        }
        for (int bad : new int[] {LEAST, -1, 8, GREATEST}) {
            due("11 bad event", x.went(0, bad, 0), BAD);
        }
        for (int bad : new int[] {LEAST, -1, 2, GREATEST}) {
            due("11 bad loop", x.went(bad, 0, 9), BAD);
        }
    }

    private static void promise12() {
        EventCounters x = Due.with("line 1 a10 b5; line 1 a40 b5; line 1 a20 b5; line 1 a30 b5; line 1 c9;");
        hot(x, 0, 1, 1, 0b0001);
        hot(x, 0, 10, 1, 0b0001);
        hot(x, 0, 11, 1, 0b0010);
        hot(x, 0, 40, 1, 0b0010);
        hot(x, 0, 41, 2, 0b0011);
        hot(x, 0, 60, 2, 0b0110);
        hot(x, 0, 61, 2, 0b1010);
        hot(x, 0, 71, 3, 0b1011);
        hot(x, 0, 91, 4, 0b1111);
        hot(x, 0, 100, 4, 0b1111);
        hot(x, 1, 50, 2, 0b0011);
        hot(x, 1, 51, 3, 0b0111);
        hot(x, 2, 100, 1, 0b10000);
        due("12 never made", x.hot(7, 50, 0), NONE);
        due("12 never made, these", x.hot(7, 50, 1), NONE);
        hot(Due.with("line 1 a1; loop 3; line 1 a1; end;"), 0, 75, 1, 0b10);
        hot(Due.with("line 1 a1; loop 3; line 1 a1; end;"), 0, 76, 2, 0b11);
        hot(Due.with("line1a7;".repeat(16)), 0, 100, 16, 65535);
        hot(Due.with("line 1; line 1 a1;"), 0, 1, 1, 0b10);
        hot(Due.with("line 1 a10; line 1 a10; line 1 a40; line 1 a40;"), 0, 90, 3, 0b1101);
        for (int bad : new int[] {LEAST, -1, 0, 101, GREATEST}) {
            due("12 bad share", x.hot(7, bad, 0), BAD);
        }
        for (int bad : new int[] {LEAST, -1, 8, GREATEST}) {
            due("12 bad event", x.hot(bad, 50, 0), BAD);
        }
        for (int bad : new int[] {LEAST, -1, 2, GREATEST}) {
            due("12 bad what", x.hot(7, 50, bad), BAD);
        }
    }

    private static void hot(EventCounters x, int e, int share, int size, int bits) {
        due("12 how many for " + share, x.hot(e, share, 0), size);
        due("12 which for " + share, x.hot(e, share, 1), bits);
    }

    private static void promise13() {
        EventCounters x = Due.with(TEXT);
        due("13 keep", x.keep(), 4);
        due("13 then", x.beside(2, 1), 40);
        Due.tell(x, "line 1 c1;");
        due("13 stays", x.beside(2, 1), 40);
        due("13 keep again", x.keep(), 1);
        due("13 in place of it", x.beside(2, 1), 1);
        due("13 all of it", x.beside(7, 1), 0);
        x.program();
        due("13 the empty one", x.keep(), 0);
        due("13 nothing", x.beside(2, 1), 0);
    }

    private static void promise14() {
        EventCounters x = Due.with(TEXT);
        due("14 nothing kept", x.beside(0, 1), 0);
        due("14 all make more", x.beside(0, 2), 0b0011);
        due("14 the farthest", x.beside(0, 4), 1);
        x.keep();
        for (int what = 0; what < 5; what++) {
            due("14 the same " + what, x.beside(0, what), new int[] {9, 9, 0, 0, NONE}[what]);
        }
        Due.tell(x, "line 2 a3 b1; loop 2; line 1 a3; end; line 1 c1; line 1; line 1 h9;");
        int[][] want = {
            {9, 9, 0b00001, 0b00010, 0}, {1, 3, 0, 0b00001, 0}, {1, 40, 0, 0b00100, 2}, {0, 0, 0, 0, NONE}};
        for (int e = 0; e < 4; e++) {
            for (int what = 0; what < 5; what++) {
                due("14 event " + e + " " + what, x.beside(e, what), want[e][what]);
            }
        }
        due("14 a line that was not there", x.beside(7, 2), 0b10000);
        due("14 a line that makes none now", x.beside(7, 3), 0b01000);
        due("14 of several the least", x.beside(7, 4), 3);
        x.program();
        due("14 lines that are not there now", x.beside(7, 3), 0b01000);
        due("14 the farthest is not there now", x.beside(7, 4), 3);
        // Rows that were told two texts ago are not of this one.
        Due.tell(x, "line 1 a9; line 1 a9; line 1 a9; line 1 a9;");
        x.program();
        x.keep();
        Due.tell(x, "line 1 a1;");
        due("14 lines that there are", x.beside(0, 2), 0b0001);
        due("14 none else differs", x.beside(0, 4), 0);
        for (int bad : new int[] {LEAST, -1, 8, GREATEST}) {
            due("14 bad event", x.beside(bad, 0), BAD);
        }
        for (int bad : new int[] {LEAST, -1, 5, GREATEST}) {
            due("14 bad what", x.beside(0, bad), BAD);
        }
    }
}
