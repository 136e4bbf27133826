/** Counts answers that are not as due, and tells texts to the class. */
final class Due {
    private static int wrong = 0;
    private static int asked = 0;

    private Due() {
    }

    static void due(String call, long got, long want) {
        asked++;
        if (got != want) {
            wrong++;
            System.out.println(call + " answered " + got + ", due is " + want);
        }
    }

    /** Puts a text on THE TAPE, which has to be empty, eight bytes a call. */
    static void write(EventCounters x, String text) {
        for (int i = 0; i < text.length(); i += 8) {
            long v = 0;
            for (int j = i; j < i + 8; j++) {
                v = v << 8 | (j < text.length() ? text.charAt(j) & 255 : ' ');
            }
            x.feed(v);
        }
        x.end(text.length());
    }

    static int tell(EventCounters x, String text) {
        write(x, text);
        return x.program();
    }

    static EventCounters with(String text) {
        EventCounters x = new EventCounters();
        int lines = tell(x, text);
        if (lines < 0) {
            due("a text that has no FAULT: " + text, lines, 0);
        }
        return x;
    }

    static void close() {
        System.out.println(asked + " answers, " + wrong + " of them not as due");
        if (wrong != 0 || asked == 0) {
            System.exit(1);
        }
    }
}
