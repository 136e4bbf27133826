import java.util.ArrayList;
import java.util.List;

/** A second reader of texts: by recursion, with an exception for a FAULT. */
final class PlainText {
    static final class Fault extends Exception {
        private static final long serialVersionUID = 1;
        final int number;
        final int place;

        Fault(int number, int place) {
            super(number + " at " + place, null, false, false);
            this.number = number;
            this.place = place;
        }
    }

    /** A LINE, or a LOOP with items. */
    static final class Item {
        boolean isLoop;
        int number;
        int[] events = new int[8];
        int index;
        final List<Item> items = new ArrayList<>();
    }

    final List<Item> items = new ArrayList<>();
    final List<Item> lines = new ArrayList<>();
    final List<Item> loops = new ArrayList<>();
    private final String text;
    private int at = 0;
    private String token = "";
    private int tokenAt = 0;

    PlainText(String text) throws Fault {
        this.text = text;
        next();
        items(items, 0);
        if (steps(items) > 6000) {
            throw new Fault(6, text.length());
        }
    }

    private static long steps(List<Item> items) {
        long n = 0;
        for (Item item : items) {
            n += item.isLoop ? item.number * steps(item.items) : 1;
        }
        return n;
    }

    private void next() throws Fault {
        while (at < text.length() && text.charAt(at) == ' ') {
            at++;
        }
        tokenAt = at;
        String rest = text.substring(at);
        if (rest.isEmpty()) {
            token = "";
        } else if (rest.matches("(?s)[a-z].*")) {
            token = rest.replaceAll("(?s)^([a-z]+).*", "$1");
        } else if (rest.matches("(?s)[0-9].*")) {
            token = rest.replaceAll("(?s)^([0-9]+).*", "$1");
            if (token.length() > 2) {
                throw new Fault(1, at);
            }
        } else if (rest.charAt(0) == ';') {
            token = ";";
        } else {
            throw new Fault(1, at);
        }
        at += token.length();
    }

    private void items(List<Item> into, int deep) throws Fault {
        while (true) {
            if (token.equals("line")) {
                into.add(line());
            } else if (token.equals("loop")) {
                into.add(loop(deep));
            } else if (token.isEmpty() && deep == 0) {
                return;
            } else if (token.equals("end") && deep > 0) {
                next();
                sign();
                return;
            } else {
                throw new Fault(2, tokenAt);
            }
        }
    }

    /** The sign is due; the TOKEN behind it is read. */
    private void sign() throws Fault {
        if (!token.equals(";")) {
            throw new Fault(2, tokenAt);
        }
        next();
    }

    private int number(int least, int most) throws Fault {
        next();
        if (!token.matches("[0-9]+")) {
            throw new Fault(2, tokenAt);
        }
        int value = Integer.parseInt(token);
        if (value < least || value > most) {
            throw new Fault(3, tokenAt);
        }
        return value;
    }

    private Item line() throws Fault {
        Item line = new Item();
        line.index = lines.size();
        if (lines.size() == 16) {
            throw new Fault(5, tokenAt);
        }
        lines.add(line);
        line.number = number(1, 20);
        next();
        String had = "";
        while (!token.equals(";")) {
            if (!token.matches("[a-z]+")) {
                throw new Fault(2, tokenAt);
            }
            if (!token.matches("[a-h]")) {
                throw new Fault(3, tokenAt);
            }
            if (had.contains(token)) {
                throw new Fault(4, tokenAt);
            }
            had += token;
            int e = token.charAt(0) - 'a';
            line.events[e] = number(0, 99);
            next();
        }
        next();
        return line;
    }

    private Item loop(int deep) throws Fault {
        Item loop = new Item();
        loop.isLoop = true;
        loop.index = loops.size();
        if (deep == 4) {
            throw new Fault(5, tokenAt);
        }
        loops.add(loop);
        loop.number = number(1, 99);
        next();
        sign();
        items(loop.items, deep + 1);
        return loop;
    }
}
