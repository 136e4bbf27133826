/** Terms, of THE TAPE and of texts: TOKENS, items and FAULTS, at each place where one may stand; what is full. */
final class TextTest {
    private static final int BAD = EventCounters.BAD, FULL = EventCounters.FULL;
    private static final String SIXTEEN = "line1;".repeat(16);

    private TextTest() {
    }

    public static void main(String[] args) {
        theTapeHas320Bytes();
        aTextThatFillsTheTape();
        placesUpToTheLast();
        eachByteAlone();
        eachByteBehindANumber();
        blanksWhereverThereAreTokens();
        blanksThatAreNeeded();
        tokensAreAsLongAsMayBe();
        eachTokenAtEachPlace();
        numbersInTheirBounds();
        numbersOfTwoFigures();
        eachNameOfOneLetter();
        anEventThatTheLineHasAlready();
        theSeventeenthLine();
        theFifthLoop();
        moreThan6000Steps();
        theFirstFaultThatIsMet();
        aTokenIsReadWhenTheOneBeforeHasBeenTaken();
        theFaultOfTheLatest();
        loopsWithoutLines();
        theEmptyText();
        Due.close();
    }

    private static void due(String call, long got, long want) {
        Due.due(call, got, want);
    }

    private static void taken(String text, int lines) {
        EventCounters x = new EventCounters();
        due("program of <" + text + ">", Due.tell(x, text), lines);
        due("fault of <" + text + ">", x.fault(), 0);
        due("bytes behind <" + text + ">", x.count(3), 0);
    }

    private static void fault(String text, int number, int place) {
        EventCounters x = new EventCounters();
        due("program of <" + text + ">", Due.tell(x, text), -10 - place);
        due("fault of <" + text + ">", x.fault(), number);
        due("bytes behind <" + text + ">", x.count(3), 0);
        due("lines behind <" + text + ">", x.count(0), 0);
        due("loops behind <" + text + ">", x.count(5), 0);
        due("steps behind <" + text + ">", x.whole(0), 0);
    }

    // ---- THE TAPE

    /** "THE TAPE has 320 bytes"; "FULL: more than 320." */
    private static void theTapeHas320Bytes() {
        for (int had = 0; had <= 320; had++) {
            EventCounters x = new EventCounters();
            for (int i = 0; i < had; i += 8) {
                x.feed(-1);
            }
            x.end(had);
            boolean fits = had <= 312;
            due("feed behind " + had, x.feed(0), fits ? had + 8 : FULL);
            due("bytes behind " + had, x.count(3), fits ? had + 8 : had);
            due("end above it", x.end(fits ? had + 9 : had + 1), BAD);
            due("end of all", x.end(fits ? had + 8 : had), fits ? had + 8 : had);
            due("end of none", x.end(0), fits ? had + 8 : had);
            due("from the beginning", x.feed(0), 8);
        }
    }

    private static void aTextThatFillsTheTape() {
        taken(" ".repeat(320), 0);
        taken(" ".repeat(313) + "line 1;", 1);
        taken("line 1;" + " ".repeat(313), 1);
        taken("loop1;end;".repeat(32), 0);
        taken("line1a11b11c11d11e1;".repeat(16), 16);
        EventCounters x = Due.with("loop1;end;".repeat(32));
        due("as many loops as there can be", x.count(5), 32);
        due("the last of them", x.loop(31, 0), 1);
        due("none behind it", x.loop(32, 0), BAD);
        EventCounters deep = Due.with("loop2;".repeat(3) + "loop1;end;".repeat(29) + "end;".repeat(3));
        due("as many loops as there can be in three others", deep.count(5), 32);
        due("the last is come to", deep.loop(31, 3), 8);
        due("loops around the last", deep.loop(31, 1), 3);
        fault("loop2;".repeat(4) + "end;loop2;".repeat(29) + "end;", 2, 318);
    }

    /** "places from 0": up to 319, and 320 is the length. */
    private static void placesUpToTheLast() {
        for (int place : new int[] {0, 1, 7, 8, 255, 256, 318, 319}) {
            fault(" ".repeat(place) + "#", 1, place);
            fault(" ".repeat(place) + ";", 2, place);
            fault(" ".repeat(place) + "x", 2, place);
            fault(" ".repeat(place) + "5", 2, place);
        }
        fault("loop 5;" + " ".repeat(313), 2, 320);
        fault("line 5" + " ".repeat(314), 2, 320);
        fault(" ".repeat(316) + "line", 2, 320);
        fault(" ".repeat(317) + "123", 1, 317);
        fault(" ".repeat(312) + "line 21;", 3, 317);
        fault("loop 99;loop 99;line 1;end;end;" + " ".repeat(289), 6, 320);
    }

    // ---- TOKENS

    /** "NAMES (a .. z), NUMBERS .., the sign ; (a point is none)", "blanks (32)". */
    private static void eachByteAlone() {
        for (int sign = 0; sign < 256; sign++) {
            boolean letter = sign >= 'a' && sign <= 'z';
            boolean figure = sign >= '0' && sign <= '9';
            EventCounters x = new EventCounters();
            x.feed((long) sign << 56);
            x.end(1);
            boolean blank = sign == 32;
            due("program of the sign " + sign, x.program(), blank ? 0 : -10);
            due("fault of the sign " + sign, x.fault(), blank ? 0 : letter || figure || sign == ';' ? 2 : 1);
        }
    }

    private static void eachByteBehindANumber() {
        for (int sign = 0; sign < 256; sign++) {
            char c = (char) sign;
            if (c >= '0' && c <= '9') {
                taken("line 1" + c + ";", 1);
            } else if (c >= 'a' && c <= 'h') {
                fault("line 1" + c + ";", 2, 7);
            } else if (c >= 'i' && c <= 'z') {
                fault("line 1" + c + ";", 3, 6);
            } else if (c == ';') {
                fault("line 1" + c + ";", 2, 7);
            } else if (c == ' ') {
                taken("line 1" + c + ";", 1);
            } else {
                fault("line 1" + c + ";", 1, 6);
            }
        }
    }

    /** "blanks (32) ahead, between, behind, as many as wanted". */
    private static void blanksWhereverThereAreTokens() {
        String[] tokens = {"loop", "3", ";", "line", "2", "a", "5", "h", "99", ";", "end", ";", "line", "20", ";"};
        for (int many = 0; many <= 12; many += 3) {
            for (int at = 0; at <= tokens.length; at++) {
                StringBuilder text = new StringBuilder();
                for (int i = 0; i <= tokens.length; i++) {
                    text.append(" ".repeat(i == at ? many : 0)).append(i < tokens.length ? tokens[i] : "");
                }
                EventCounters x = Due.with(text.toString());
                due("lines of <" + text + ">", x.count(0), 2);
                due("times in <" + text + ">", x.line(0, 1), 3);
                due("a in <" + text + ">", x.line(0, 10), 5);
                due("h in <" + text + ">", x.line(0, 17), 99);
            }
        }
        taken(" ".repeat(17) + String.join(" ".repeat(17), tokens), 2);
    }

    /** "at least one between two NAMES, between two NUMBERS; else none is needed". */
    private static void blanksThatAreNeeded() {
        fault("lineline", 2, 0);
        fault("line line", 2, 5);
        fault("loop1;endloop", 2, 6);
        fault("loop1;end loop", 2, 10);
        fault("line1ab1;", 3, 5);
        fault("line1a b1;", 2, 7);
        fault("line11a1 1;", 2, 9);
        fault("line 1 1;", 2, 7);
        taken("line11;", 1);
        taken("line1a1b1c1d1e1f1g1h1;loop1;line1;end;", 2);
        EventCounters x = Due.with("line12a34b56;");
        due("12", x.line(0, 0), 12);
        due("34", x.line(0, 10), 34);
        due("56", x.line(0, 11), 56);
    }

    /** "TOKENS, each as long as may be". */
    private static void tokensAreAsLongAsMayBe() {
        fault("linea 1;", 2, 0);
        fault("liner 1;", 2, 0);
        fault("loops 1;", 2, 0);
        fault("loop 1; ends;", 2, 8);
        fault("lin e 1;", 2, 0);
        fault("line 1 aa 5;", 3, 7);
        fault("line 123;", 1, 5);
        fault("line 12345678901234567890;", 1, 5);
        fault("line 1 a 000;", 1, 9);
        fault("loop 001;end;", 1, 5);
        fault("x".repeat(320), 2, 0);
        fault("5".repeat(320), 1, 0);
        fault("line" + "0".repeat(316), 1, 4);
    }

    /**
     * Each kind of TOKEN at each place where one may stand: the number of its FAULT, s where it may stand (then the end
     * of the text is the FAULT 2 behind it), + where it ends a text that is taken.
     */
    private static void eachTokenAtEachPlace() {
        String[] tokens = {"#", ".", "A", "123", "line", "loop", "end", "b", "a", "z", "ab", "0", "1", "20", "21", "99", ";"};
        at("", "1111" + "ss2" + "2222" + "22222" + "2", tokens);
        at("line 1;", "1111" + "ss2" + "2222" + "22222" + "2", tokens);
        at("loop 2;", "1111" + "sss" + "2222" + "22222" + "2", tokens);
        at("loop 2; line 1;", "1111" + "sss" + "2222" + "22222" + "2", tokens);
        at("loop 2; end;", "1111" + "ss2" + "2222" + "22222" + "2", tokens);
        at("line", "1111" + "222" + "2222" + "3ss33" + "2", tokens);
        at("line 5", "1111" + "333" + "ss33" + "22222" + "+", tokens);
        at("line 5 a", "1111" + "222" + "2222" + "sssss" + "2", tokens);
        at("line 5 a3", "1111" + "333" + "s433" + "22222" + "+", tokens);
        at("line 5 a3 b0", "1111" + "333" + "4433" + "22222" + "+", tokens);
        at("loop", "1111" + "222" + "2222" + "3ssss" + "2", tokens);
        at("loop 7", "1111" + "222" + "2222" + "22222" + "s", tokens);
        at("loop 7; end", "1111" + "222" + "2222" + "22222" + "+", tokens);
        at("loop 7; loop 7; end", "1111" + "222" + "2222" + "22222" + "s", tokens);
    }

    private static void at(String ahead, String wants, String[] tokens) {
        due("as many answers as tokens behind <" + ahead + ">", wants.length(), tokens.length);
        for (int i = 0; i < tokens.length; i++) {
            for (String behind : new String[] {"", "  "}) {
                String text = ahead + " " + tokens[i] + behind;
                char want = wants.charAt(i);
                if (want == '+') {
                    taken(text, ahead.startsWith("line") ? 1 : 0);
                } else if (want == 's') {
                    fault(text, 2, text.length());
                } else {
                    fault(text, want - '0', ahead.length() + 1);
                }
            }
        }
    }

    /** TICKS 1 to 20; how many 0 to 99; so often 1 to 99. */
    private static void numbersInTheirBounds() {
        for (int n = 0; n <= 99; n++) {
            if (n >= 1 && n <= 20) {
                taken("line " + n + ";", 1);
                due("ticks " + n, Due.with("line " + n + ";").line(0, 0), n);
            } else {
                fault("line " + n + ";", 3, 5);
            }
            EventCounters x = Due.with("line 1 d" + n + ";");
            due("so many of d " + n, x.line(0, 13), n);
            due("in all", x.whole(13), n);
            if (n >= 1) {
                EventCounters y = Due.with("loop " + n + "; line 1; end;");
                due("so often " + n, y.line(0, 1), n);
                due("the loop tells " + n, y.loop(0, 0), n);
                due("steps " + n, y.whole(0), n);
            } else {
                fault("loop " + n + "; line 1; end;", 3, 5);
            }
        }
        due("0, if it is not told", Due.with("line 1 a5;").line(0, 11), 0);
    }

    /** "NUMBERS (1 or 2 figures)", "a NUMBER that is too long (its first byte)". */
    private static void numbersOfTwoFigures() {
        for (int n = 0; n <= 9; n++) {
            EventCounters x = Due.with("line 1 d0" + n + ";");
            due("0" + n, x.line(0, 13), n);
            fault("line 1 d00" + n + ";", 1, 8);
            fault("line 1 d" + n + "00;", 1, 8);
        }
        fault("line 100;", 1, 5);
        fault("line 001;", 1, 5);
        fault("loop 100;", 1, 5);
        fault("100", 1, 0);
        fault("99", 2, 0);
    }

    /** "EVENTS a to h (0 to 7)", "a NAME that is no EVENT". */
    private static void eachNameOfOneLetter() {
        for (char c = 'a'; c <= 'z'; c++) {
            if (c <= 'h') {
                EventCounters x = Due.with("line 1 " + c + "7;");
                for (int e = 0; e < 8; e++) {
                    due("event " + e + " of " + c, x.line(0, 10 + e), e == c - 'a' ? 7 : 0);
                    due("event " + e + " of " + c + " in all", x.whole(10 + e), e == c - 'a' ? 7 : 0);
                }
            } else {
                fault("line 1 " + c + "7;", 3, 7);
            }
            fault("line 1 " + c + c + "7;", 3, 7);
        }
    }

    /** "4 an EVENT that the line has already (it)". */
    private static void anEventThatTheLineHasAlready() {
        String all = "line 1 a1 b1 c1 d1 e1 f1 g1 h1 ";
        for (int e = 0; e < 8; e++) {
            fault(all + (char) ('a' + e) + "1;", 4, all.length());
            fault("line 1 " + (char) ('a' + e) + "0 " + (char) ('a' + e) + "0;", 4, 10);
            fault("line 1 " + (char) ('a' + e) + "1" + (char) ('a' + e), 4, 9);
        }
        taken("line 1 a1; line 1 a1;", 2);
        fault(all + "i1;", 3, all.length());
        fault("line 1 a1 ai1;", 3, 10);
    }

    // ---- what is too much

    /** "5 the 17th line, .. (its NAME)". */
    private static void theSeventeenthLine() {
        taken(SIXTEEN, 16);
        taken(SIXTEEN + "loop 5; end;", 16);
        fault(SIXTEEN + "line", 5, 96);
        fault(SIXTEEN + "  line 99 z 100", 5, 98);
        fault(SIXTEEN + "loop 2; line", 5, 104);
        fault("loop 2;" + SIXTEEN + "end; line 1;", 5, 108);
        fault(SIXTEEN + "liner", 2, 96);
        EventCounters x = Due.with(SIXTEEN);
        due("the last line", x.line(15, 1), 1);
        due("none behind it", x.line(16, 1), BAD);
        due("its step", x.step(15), 15);
        due("all sixteen are in a loop", Due.with("loop 2;" + SIXTEEN + "end;").loop(0, 2), 65535);
    }

    /** "the 5th loop in one another (its NAME)"; "LOOPS in LOOPS, 4 deep at most". */
    private static void theFifthLoop() {
        String four = "loop 1;".repeat(4);
        taken(four + "end;".repeat(4), 0);
        fault(four + "loop", 5, 28);
        fault(four + " loop 0", 5, 29);
        fault("loop 1; end;" + four + "loop 1;", 5, 40);
        taken(four + "end; loop 1; end; end; loop 1; loop 1; end; end; end; end;", 0);
        fault(four + "end; loop 1; loop 1;", 5, 41);
        taken("loop 1; end;".repeat(7), 0);
        fault(four + "loops", 2, 28);
        EventCounters x = Due.with("loop 2;loop 2;loop 2;loop 2;line 1 a1;end;end;end;end;");
        due("four around the line", x.line(0, 2), 4);
        due("three around the loop", x.loop(3, 1), 3);
        due("steps", x.whole(0), 16);
    }

    /** "6 more than 6000 STEPS (the length)", "Behind all". */
    private static void moreThan6000Steps() {
        EventCounters x = Due.with("loop 60; loop 50; line 1; line 1; end; end;");
        due("6000 steps", x.whole(0), 6000);
        due("the last", x.step(5999), 1);
        due("none behind it", x.step(6000), BAD);
        due("5999 steps", Due.with("loop 7; loop 8; loop 97; line 1; end; end; loop 81; line 1; end; end;").whole(0), 5999);
        fault("loop 60; loop 50; line 1; line 1; end; end; line 1;", 6, 51);
        fault("line 1; loop 60; loop 50; line 1; line 1; end; end;", 6, 51);
        fault("line 1; loop 60; loop 50; line 1; line 1; end; end;   ", 6, 54);
        fault("loop 99; loop 99; loop 99; loop 99; line 1; end; end; end; end;", 6, 63);
        fault("loop 99;" + "line1;".repeat(16) + "loop 99; end; end; loop 99; loop 99; end; end; #", 1, 151);
        fault("loop 99; loop 61; line 1; end; end;", 6, 35);
        taken("loop 99; loop 60; line 1; end; end;", 1);
        // Too many in a LOOP, and LINES and LOOPS behind it.
        fault("loop 99; loop 99; line 1; end; end; loop 1; line 1; end;", 6, 56);
    }

    // ---- which comes first

    /** "FAULTS, the first met as it is read". */
    private static void theFirstFaultThatIsMet() {
        fault("line 21 i1;", 3, 5);
        fault("line 1 i1 #", 3, 7);
        fault("line 1 a1 a1 #", 4, 10);
        fault("end; #", 2, 0);
        fault("loop 0; end; end;", 3, 5);
        fault("loop 2; #", 1, 8);
        fault("loop 99;loop 99;line 1;end;end; line", 2, 36);
        fault("loop 99;loop 99;line 1;end;end; line 0", 3, 37);
        fault("loop 99;loop 99;line 1;end;end; end;", 2, 32);
        fault("loop 99;loop 99;line 1;end;", 2, 27);
        fault("loop 1;".repeat(4) + "loop 1; #", 5, 28);
    }

    /** "a TOKEN is read when the one before has been taken": what is not taken hides what stands behind it. */
    private static void aTokenIsReadWhenTheOneBeforeHasBeenTaken() {
        fault("foo #", 2, 0);
        fault("line 0#", 3, 5);
        fault("line 1 i#", 3, 7);
        fault("line 1 a1 a#", 4, 10);
        fault(SIXTEEN + "line#", 5, 96);
        fault("loop 1;".repeat(4) + "loop#", 5, 28);
        fault("line 1 a1#", 1, 9);
        fault("line 1 a#", 1, 8);
        fault("line#", 1, 4);
        fault("loop#", 1, 4);
        fault("loop 1#", 1, 6);
        fault("loop 1; end#", 1, 11);
        fault("line 1;#", 1, 7);
        fault("line 1 123", 1, 7);
        fault("line 123#", 1, 5);
    }

    /** Promise 5: "The FAULT of the latest program(); 0." */
    private static void theFaultOfTheLatest() {
        EventCounters x = new EventCounters();
        due("at first", x.fault(), 0);
        String[] texts = {"#", "line", "line 0;", "line 1 a1 a1;", SIXTEEN + "line", "loop 99;loop 99;line 1;end;end;"};
        for (int i = 0; i < texts.length; i++) {
            Due.tell(x, texts[i]);
            due("fault " + (i + 1), x.fault(), i + 1);
            due("told twice", x.fault(), i + 1);
            x.feed(0);
            due("a feed changes nothing of it", x.fault(), i + 1);
            x.end(0);
            due("nor does an end", x.fault(), i + 1);
            Due.tell(x, texts[5 - i]);
            due("fault " + (6 - i), x.fault(), 6 - i);
            Due.tell(x, "line 1;");
            due("none", x.fault(), 0);
        }
    }

    // ---- what is empty

    private static void loopsWithoutLines() {
        EventCounters x = Due.with("loop 99; loop 98; end; end; line 1 a3; loop 97; end;");
        int[][] want = {{99, 0, 0, 1, 0}, {98, 1, 0, 99, 0}, {97, 0, 0, 1, 0}};
        for (int q = 0; q < 3; q++) {
            for (int what = 0; what < 5; what++) {
                due("loop " + q + " " + what, x.loop(q, what), want[q][what]);
            }
            due("it went so often as it is", x.went(q, 0, 3), 0);
            due("it makes nothing", x.went(q, 0, 4), EventCounters.NONE);
        }
        due("steps", x.whole(0), 1);
    }

    /** "THE TAPE (empty then ..)": an empty text is a text, and is taken. */
    private static void theEmptyText() {
        EventCounters x = Due.with("loop 2; line 1 a3; end;");
        x.run(0, 0, 6);
        due("nothing on the tape", x.program(), 0);
        due("no fault", x.fault(), 0);
        due("no lines", x.count(0), 0);
        due("no loops", x.count(5), 0);
        due("no steps", x.whole(0), 0);
        due("no ticks", x.whole(1), 0);
        due("no events", x.whole(10), 0);
        due("no runs", x.count(2), 0);
    }
}
