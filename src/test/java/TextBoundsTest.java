/**
 * The sentences under "Input text", "Undo" and "Settings" of ../shared/DOC.md that name a bound, on both sides of it:
 * each method begins with the sentence.
 */
public final class TextBoundsTest {
    public static void main(String[] args) {
        lengthOfTheBuffer();
        codes();
        numbersOfOrders();
        leadingZeros();
        oneOrMore();
        signsBetween();
        firstErrorOfAFullBuffer();
        errorsAreNotMendedByMore();
        nothingOfAnOlderText();
        carriedOutOrders();
        upToTheFirstRefused();
        eachOrderRefused();
        eachUndoableCallSaves();
        savedThoughNothingChanges();
        sixStates();
        allButTheBuffer();
        othersSaveNothing();
        settings();
        Check.end();
    }

    // ---- Input text

    /** "The buffer has at most 60 characters." */
    private static void lengthOfTheBuffer() {
        FuseRows x = new FuseRows();
        Check.due("11: empty", x.clearBuffer(), 0);
        for (int length = 1; length <= 60; length++) {
            Check.due("10: the new length", x.append('f'), length);
        }
        Check.noState("10: the 61st", x, () -> x.append('f'));
        Check.due("11: full", x.clearBuffer(), 60);
        Check.due("11: empty then", x.clearBuffer(), 0);
        Check.due("10: the first one again", x.append('f'), 1);
        Check.due("11: of one", x.clearBuffer(), 1);
    }

    /** "the character code, 33 to 126" */
    private static void codes() {
        FuseRows x = new FuseRows();
        for (int code = 33; code <= 126; code++) {
            long before = x.digest();
            Check.due("10: code " + code, x.append(code), 1);
            Check.due("26: the code " + code + " is hashed", x.digest(), withCode(before, code));
            x.clearBuffer();
        }
        for (int wrong : new int[] {-1, 31, 32, 127, 128, 160, 255, 256, 256 + 33, 65536 + 33}) {
            Check.noArgument("10: code " + wrong, x, () -> x.append(wrong));
        }
        Check.due("10: nothing was appended", x.clearBuffer(), 0);
    }

    /** The hash ends with the length of the buffer and its codes; all ahead of them stays what it is. */
    private static long withCode(long empty, int code) {
        return 31 * (empty + 1) + code;
    }

    /** "a key, 0 to 15", "a value, 0 to 63", "a row, 0 to 19", "degrees, 1 to 9", "ticks, 1 to 99" */
    private static void numbersOfOrders() {
        numbers("put:", 0, 15, ":7");
        numbers("put:7:", 0, 63, "");
        numbers("lock:", 0, 19, "");
        numbers("heat:", 1, 9, "");
        numbers("pass:", 1, 99, "");
        numbers("fix:", 0, 19, "");
    }

    private static void numbers(String word, int lowest, int highest, String end) {
        for (int number = 0; number <= 130; number++) {
            FuseRows x = new FuseRows();
            String text = word + number + end;
            Check.type(x, text);
            if (number >= lowest && number <= highest) {
                Check.due("12: " + text, x.firstError(), text.length());
                Check.due("13: " + text, x.run(), 1);
                continue;
            }
            // the error is the first digit that makes the number too large, or the digit 0 where 0 is too small
            int digits = 0;
            for (int rest = number; rest > highest; rest /= 10) {
                digits = Integer.toString(rest).length() - 1;
            }
            Check.due("12: " + text, x.firstError(), word.length() + digits);
            Check.noArgument("13: " + text, x, () -> x.run());
        }
        for (String much : new String[] {"999999999999", "4294967297", "2147483648"}) {
            FuseRows x = new FuseRows();
            Check.type(x, word + much);
            int digits = highest < 10 * (much.charAt(0) - '0') + much.charAt(1) - '0' ? 1 : 2;
            Check.due("12: " + word + much, x.firstError(), word.length() + digits);
        }
    }

    /** "Numbers are without leading zeros." */
    private static void leadingZeros() {
        for (String word : new String[] {"put:", "put:1:", "lock:", "fix:"}) {
            for (int digit = 0; digit <= 9; digit++) {
                error(word + "0" + digit, word.length() + 1);
            }
        }
        for (String word : new String[] {"heat:", "pass:"}) {
            error(word + "0", word.length());
            error(word + "01", word.length());
        }
    }

    private static void error(String text, int due) {
        FuseRows x = new FuseRows();
        Check.type(x, text);
        Check.due("12: " + text, x.firstError(), due);
        Check.noArgument("13: " + text, x, () -> x.run());
    }

    private static void right(String text, int orders) {
        FuseRows x = new FuseRows();
        Check.type(x, text);
        Check.due("12: " + text, x.firstError(), text.length());
        Check.due("13: " + text, x.run(), orders);
    }

    /** "Orders as a text are one or more orders" */
    private static void oneOrMore() {
        error("", 0);
        String order = "heat:1";
        StringBuilder text = new StringBuilder(order);
        for (int orders = 1; text.length() <= 60; orders++) {
            right(text.toString(), orders);
            text.append(';').append(order);
        }
        text.setLength(0);
        text.append("fix:0");
        for (int orders = 1; text.length() <= 60; orders++) {
            right(text.toString(), orders);
            text.append(";fix:0");
        }
    }

    /** "with ";" between them" */
    private static void signsBetween() {
        error(";", 0);
        error(";heat:1", 0);
        error("heat:1;", 7);
        error("heat:1;;heat:1", 7);
        error("heat:1heat:1", 6);
        error("heat:1,heat:1", 6);
        error("heat:1:", 6);
        error("put:1;2", 5);
        error("put:1:2:3", 7);
        error("lock;1", 4);
        right("heat:1;heat:1", 2);
        for (String word : new String[] {"put:1:2", "lock:3", "heat:4", "pass:5", "fix:6"}) {
            right(word, 1);
            right(word + ";heat:1", 2);
            right("heat:1;" + word, 2);
            for (int length = 1; length < word.length(); length++) {
                // the beginning of an order is no error, and not complete
                error(word.substring(0, length), length);
                error("heat:1;" + word.substring(0, length), 7 + length);
                error(word.substring(0, length) + "~", length);
                error("heat:1;" + word.substring(0, length) + "~", 7 + length);
            }
        }
    }

    /** "the index of the first character that is a syntax error; the length of the buffer if there is none" */
    private static void firstErrorOfAFullBuffer() {
        String nine = "fix:1;fix:1;fix:1;fix:1;fix:1;fix:1;fix:1;fix:1;fix:1;";
        right(nine + "fix:19", 10);
        right(nine + "fix:1", 10);
        error(nine + "fix:1;", 60);
        error(nine + "fix:1:", 59);
        error(nine + "fix:20", 59);
        error(nine + "put:15", 60);
        error(nine + "put:16", 59);
        error(nine + "put:1:", 60);
        error("put:15:63;put:15:63;put:15:63;put:15:63;put:15:63;put:15:63;", 60);
        right("put:15:63;put:15:63;put:15:63;put:15:63;put:15:63;put:15:63", 6);
        error("X" + nine + "fix:1", 0);
    }

    /** "no orders as a text, of any length, begin with the characters before it and this character" */
    private static void errorsAreNotMendedByMore() {
        FuseRows x = new FuseRows();
        String text = "lock:2|fix:1;heat:9";
        for (int n = 0; n < text.length(); n++) {
            x.append(text.charAt(n));
            Check.due("12: after " + (n + 1), x.firstError(), Math.min(n + 1, 6));
        }
        // behind a full buffer no order fits any more, but a text of any length may begin so
        String full = "pass:1;pass:1;pass:1;pass:1;pass:1;pass:1;pass:1;pass:1;lock";
        error(full, 60);
    }

    /** "Clears the buffer", "and clears the buffer": what stood behind the end of a shorter text is not read. */
    private static void nothingOfAnOlderText() {
        for (String old : new String[] {"put:15:63", "lock:19", "heat:9;lock:19", "pass:99", "fix:10;fix:10"}) {
            for (int length = 0; length < old.length(); length++) {
                FuseRows x = new FuseRows();
                Rows.run(x, old, old.indexOf(';') > 0 ? 2 : 1);
                Check.type(x, old.substring(0, length));
                FuseRows twin = new FuseRows();
                Check.type(twin, old.substring(0, length));
                Check.due("12: behind " + old + ", cleared by run()", x.firstError(), length);
                x.clearBuffer();
                Check.type(x, old);
                x.clearBuffer();
                Check.noArgument("13: cleared", x, () -> x.run());
                Check.type(x, old.substring(0, length));
                Check.due("12: behind " + old + ", cleared", x.firstError(), length);
                Check.due("13: as a new object", ran(x), ran(twin));
            }
        }
    }

    private static int ran(FuseRows x) {
        try {
            return x.run();
        } catch (IllegalArgumentException e) {
            return -1;
        }
    }

    // ---- run

    /** "Carries out the orders in the buffer as put(), lock(), heat(), pass() and refresh() do, one after the other" */
    private static void carriedOutOrders() {
        FuseRows x = scene();
        FuseRows twin = scene();
        Rows.run(x, "put:15:63;put:0:0;lock:19;fix:0;heat:6;pass:99", 6);
        twin.put(15, 63);
        twin.put(0, 0);
        twin.lock(19);
        twin.refresh(0);
        twin.heat(6);
        twin.pass(99);
        // both have six saved states, so that the digests can be the same
        Check.due("13: as the calls do", x.digest(), twin.digest());
        Check.due("13: one state is saved", x.undo(), 5);
        Check.due("13: all is undone", x.digest(), undone().digest());
        FuseRows last = new FuseRows();
        Rows.run(last, "lock:19;lock:0;lock:10;lock:9", 4);
        for (int row = 0; row < 20; row++) {
            Check.due("13: the row " + row, last.row(row, 7), row % 10 == 0 || row % 10 == 9 ? 1 : 0);
        }
    }

    private static FuseRows scene() {
        FuseRows x = new FuseRows();
        x.set(1, 2);
        x.put(15, 1);
        x.blow(9, 9, 1);
        x.pass(1);
        x.heat(2);
        x.set(2, 2);
        x.put(3, 3);
        return x;
    }

    private static FuseRows undone() {
        FuseRows x = scene();
        x.heat(1);
        x.undo();
        return x;
    }

    /** "up to the first one whose method would throw an exception, and clears the buffer" */
    private static void upToTheFirstRefused() {
        String[][] texts = {{"lock:3", "0"}, {"lock:3;heat:1", "0"}, {"heat:1;lock:3", "1"},
            {"heat:1;heat:1;lock:3", "2"}, {"heat:1;lock:3;heat:1", "1"}, {"heat:1;lock:3;lock:3;heat:1", "1"},
            {"lock:4;lock:4", "1"}, {"fix:4;lock:4;fix:4;fix:4", "2"}};
        for (String[] text : texts) {
            FuseRows x = new FuseRows();
            x.lock(3);
            Rows.run(x, text[0], Integer.parseInt(text[1]));
            Check.due("13: saved as one call, also if none is carried out: " + text[0], x.count(12), 2);
            Check.due("13: cleared, also then: " + text[0], x.clearBuffer(), 0);
            Check.due("13: undone as one call: " + text[0], x.undo(), 1);
            Check.due("13: what was ahead of it: " + text[0], x.count(6) * 10 + x.count(8), 13);
        }
    }

    /** Each order, just carried out and just refused. */
    private static void eachOrderRefused() {
        FuseRows x = new FuseRows();
        Rows.passTo(x, 9990);
        Rows.run(x, "pass:10;heat:1", 0);
        Rows.run(x, "pass:9;heat:1", 2);
        Check.due("8: the tick", x.count(0), 9999);
        Rows.run(x, "pass:1", 0);
        Rows.run(x, "pass:99", 0);
        x.undo();
        x.undo();
        x.undo();
        Rows.run(x, "pass:8;pass:1;pass:1", 2);
        FuseRows rows = Rows.withRow(17, 1, 3);
        Rows.run(rows, "put:0:0;put:15:63;put:0:0;pass:1", 2);
        Check.due("3: both are put", rows.count(11) * 10000 + rows.key(0, 1) * 100 + rows.key(15, 1), 21819);
        Rows.run(rows, "lock:19;fix:18;fix:19", 2);
        Rows.run(rows, "lock:18;lock:18", 1);
        Rows.run(rows, "heat:9;lock:19", 1);
    }

    // ---- Undo

    /** "Each method that is marked "undoable" and does not throw an exception saves the state from before it" */
    private static void eachUndoableCallSaves() {
        FuseRows x = new FuseRows();
        x.set(1, 2);
        x.put(15, 1);
        for (int n = 0; n < 6; n++) {
            x.pass(1);
        }
        for (int n = 0; n < 6; n++) {
            x.undo();
        }
        long before = x.digest();
        saves("blow", x, before, x.blow(0, 0, 3), 3);
        saves("put", x, before, x.put(15, 2), 1);
        saves("drop", x, before, x.drop(15), 1);
        saves("lock", x, before, x.lock(0), 1);
        saves("refresh", x, before, x.refresh(0), Rows.size(15, 1));
        saves("heat", x, before, x.heat(9), Rows.size(15, 1));
        saves("pass", x, before, x.pass(99), 99);
        saves("set", x, before, x.set(1, 1), 2);
        Check.type(x, "pass:1");
        saves("run", x, before, x.run(), 1);
    }

    private static void saves(String call, FuseRows x, long before, int got, int due) {
        Check.due("14: " + call, got, due);
        Check.holds("14: " + call + " changes something", x.digest() != before);
        Check.due("14: " + call + " is saved", x.count(12), 1);
        Check.due("14: undo() of " + call, x.undo(), 0);
        Check.due("14: the state from before " + call, x.digest(), before);
    }

    /** "(also if it changes nothing)" */
    private static void savedThoughNothingChanges() {
        FuseRows x = new FuseRows();
        for (int n = 1; n <= 6; n++) {
            x.pass(1);
        }
        int ticks = 0;
        for (int n = 0; n < 6; n++) {
            nothing(x, n);
            Check.due("14: six states at most", x.count(12), 6);
        }
        for (int left = 5; left >= 0; left--) {
            Check.due("14: left", x.undo(), left);
            ticks += x.count(0);
        }
        Check.due("14: each of them was one that changed nothing", ticks, 36);
        Check.noState("14: the passes are dropped", x, () -> x.undo());
    }

    private static void nothing(FuseRows x, int call) {
        switch (call) {
            case 0 -> x.drop(0);
            case 1 -> x.refresh(19);
            case 2 -> x.heat(9);
            case 3 -> x.set(0, 1);
            case 4 -> x.set(3, 1);
            default -> Check.due("7: nothing becomes weaker", x.heat(1), 0);
        }
    }

    /** "At most 6 states are saved; the oldest one is dropped first." */
    private static void sixStates() {
        for (int calls = 0; calls <= 20; calls++) {
            FuseRows x = new FuseRows();
            for (int n = 1; n <= calls; n++) {
                x.pass(1);
                Check.due("14: saved after " + n, x.count(12), Math.min(n, 6));
            }
            int left = Math.min(calls, 6);
            for (int n = left; n > 0; n--) {
                Check.due("14: left of " + calls, x.undo(), n - 1);
                Check.due("14: the state ahead of it", x.count(0), calls - left + n - 1);
            }
            Check.noState("14: none is left of " + calls, x, () -> x.undo());
            x.pass(7);
            Check.due("14: saved again", x.count(12), 1);
            Check.due("14: undone again", x.undo() * 100 + x.count(0), calls - left);
        }
        // a few calls, a few undos, again and again: the ring of saved states turns round
        FuseRows x = new FuseRows();
        for (int turn = 0; turn < 40; turn++) {
            int tick = x.count(0);
            x.pass(1);
            x.pass(2);
            x.pass(4);
            x.undo();
            Check.due("14: the latest one", x.count(0), tick + 3);
            x.undo();
            Check.due("14: the one ahead of it", x.count(0), tick + 1);
        }
        // three are saved and two undone in each turn: 6 - 2 are left
        for (int left = 3; left >= 0; left--) {
            Check.due("14: left", x.undo() * 100 + x.count(0), 100 * left + 36 + left);
        }
    }

    /** "all, also what is counted so far, but the buffer and the saved states" */
    private static void allButTheBuffer() {
        FuseRows x = new FuseRows();
        x.put(3, 3);
        x.set(0, 0);
        x.set(1, 1);
        x.set(2, 2);
        x.set(3, 0);
        x.pass(3);
        Check.type(x, "heat:1");
        int[] due = {120, 121, 111, 311, 1311, 1311};
        for (int n = 0; n < 6; n++) {
            Check.due("14: the tick", x.count(0), n == 0 ? 3 : 0);
            Check.due("14: values put", x.count(11), 1);
            Check.due("14: energy", x.count(8), 3 * Rows.size(3, 3));
            x.undo();
            Check.due("14: the settings", x.setting(0) * 1000 + x.setting(1) * 100 + x.setting(2) * 10 + x.setting(3),
                    due[n]);
        }
        Check.due("14: values put", x.count(11), 0);
        Check.due("14: energy", x.count(8), 0);
        Check.due("14: the fuses", x.count(1), 20);
        Check.due("14: not the buffer", x.clearBuffer(), 6);
        Check.type(x, "pass:1");
        x.run();
        x.append('p');
        x.undo();
        Check.due("14: not the buffer that run() cleared", x.clearBuffer(), 1);
    }

    /** What is not marked "undoable" saves nothing, also where the oldest state would be dropped for it. */
    private static void othersSaveNothing() {
        for (int calls = 0; calls <= 8; calls++) {
            FuseRows x = new FuseRows();
            FuseRows twin = new FuseRows();
            for (int n = 0; n < calls; n++) {
                x.pass(1);
                twin.pass(1);
            }
            Check.type(x, "pass:1");
            x.firstError();
            x.clearBuffer();
            Check.due("10: not undoable", x.count(12), Math.min(calls, 6));
            Rows.same("10: not undoable", x, twin);
        }
    }

    // ---- Settings

    /** "0: once (0) or thrice (1), at first 1; 1: 1 to 3, at first 3; 2: 1 to 3, at first 1; 3: 1 or 0, at first 1" */
    private static void settings() {
        int[] lowest = {0, 1, 1, 0};
        int[] highest = {1, 3, 3, 1};
        int[] first = {1, 3, 1, 1};
        for (int s = 0; s < 4; s++) {
            int setting = s;
            FuseRows x = new FuseRows();
            int previous = first[s];
            Check.due("20: at first", x.setting(s), previous);
            for (int value = -2; value <= 5; value++) {
                int to = value;
                if (value < lowest[s] || value > highest[s]) {
                    Check.noArgument("9: set(" + s + ", " + value + ")", x, () -> x.set(setting, to));
                    continue;
                }
                Check.due("9: set(" + s + ", " + value + ")", x.set(s, value), previous);
                Check.due("20: setting(" + s + ")", x.setting(s), value);
                previous = value;
            }
            for (int other = 0; other < 4; other++) {
                Check.due("20: the setting " + other, x.setting(other), other == s ? highest[s] : first[other]);
            }
        }
    }
}
