/** Promises 10 to 14: the buffer, its errors, its orders, and undo. */
public final class TextsTest {
    private static final int MIN = Integer.MIN_VALUE;
    private static final int MAX = Integer.MAX_VALUE;

    /** A text, "|" where its first syntax error is, or at its end; those that are complete end with "!". */
    private static final String[] TEXTS = {
        "|", "|x", "|;", "|P", "|1", "|:", "p|", "p|x", "pu|", "pa|", "pu|s", "pa|t", "put|", "put|;", "pas|", "pas|:",
        "put:|", "put:|:", "put:|;", "put:|x", "put:0|", "put:0|;", "put:0|0", "put:0|1:1", "put:1|", "put:10|",
        "put:15|", "put:1|6", "put:15|0", "put:2|0", "put:9|9", "put:3:|", "put:3:|;", "put:3:|:", "put:3:0|!",
        "put:3:0|0", "put:3:9|!", "put:3:60|!", "put:15:63|!", "put:3:6|4", "put:3:7|0", "put:3:63|0", "put:3:1|:",
        "put:3:1;|", "put:3:1;|;", "put:3:1;|1", "put:3:1;p|", "put:3:1;put:3:1|!",
        "|L", "l|", "lo|", "loc|", "lock|", "lock|;", "lock:|", "lock:|:", "lock:0|!", "lock:0|0", "lock:9|!",
        "lock:10|!", "lock:19|!", "lock:2|0", "lock:19|0", "lock:1|:1", "lock:1|!", "lock:9|0",
        "h|", "he|", "hea|", "heat|", "heat:|", "heat:|0", "heat:1|!", "heat:9|!", "heat:1|0", "heat:9|9", "heat:1;|",
        "pass|", "pass:|", "pass:|0", "pass:1|!", "pass:9|!", "pass:10|!", "pass:99|!", "pass:99|9", "pass:10|0", "pass:20|0", "pass:1|:",
        "f|", "fi|", "fix|", "fix:|", "fix|1", "fix:0|!", "fix:0|1", "fix:19|!", "fix:2|0", "fix:1|x", "fi|ng",
        "fix:1;lock:2;heat:3;pass:4;put:5:6|!", "fix:1;lock:2;heat:3;pass:4;put:5:6;|", "fix:1;|,", "fix:1|,fix:1",
        "put|s", "lock:-|1".replace("-|", "|-"), "put:+|1".replace("+|", "|+"), "pass:1|.", "heat:5|/", "heat:|:",
        "fix:1;fix:1;fix:1;fix:1;fix:1;fix:1;fix:1;fix:1;fix:1;fix:1;|",
        "fix:1;fix:1;fix:1;fix:1;fix:1;fix:1;fix:1;fix:1;fix:1;fix:1|!",
        "fix:1;fix:1;fix:1;fix:1;fix:1;fix:1;fix:1;fix:1;fix:1;fix:19|!",
        "fix:1;fix:1;fix:1;fix:1;fix:1;fix:1;fix:1;fix:1;heat:1;put:1|",
        "fix:1;fix:1;fix:1;fix:1;fix:1;fix:1;fix:1;fix:1;heat:1;put|x"};

    public static void main(String[] args) {
        promise10Append();
        promise11ClearBuffer();
        promise12FirstError();
        promise12EachCharacter();
        promise13Run();
        promise13RunStops();
        promise13RunRefused();
        promise14Undo();
        promise14UndoRestoresAll();
        Check.end();
    }

    private static void promise10Append() {
        FuseRows x = new FuseRows();
        Check.due("10: the first code", x.append(33), 1);
        Check.due("10: the last code", x.append(126), 2);
        for (int wrong : new int[] {-1, 0, 32, 127, 128, 65536 + 65, MIN, MAX}) {
            Check.noArgument("10: append(" + wrong + ")", x, () -> x.append(wrong));
        }
        for (int n = 3; n <= 60; n++) {
            Check.due("10: append", x.append('p'), n);
        }
        Check.noState("10: the buffer is full", x, () -> x.append('p'));
        Check.noArgument("10: the buffer is full, and the code wrong", x, () -> x.append(32));
        Check.due("10: not undoable", x.count(12), 0);
        Check.due("10: the length", x.clearBuffer(), 60);
        Check.due("10: from the start again", x.append('p'), 1);
    }

    private static void promise11ClearBuffer() {
        FuseRows x = new FuseRows();
        Check.due("11: an empty buffer", x.clearBuffer(), 0);
        Check.type(x, "lock");
        Check.due("11: its length", x.clearBuffer(), 4);
        Check.due("11: empty then", x.clearBuffer(), 0);
        Check.due("11: not undoable", x.count(12), 0);
        Check.type(x, "fix:1");
        Check.due("11: nothing of the old text is left", x.firstError(), 5);
        Check.due("11: run", x.run(), 1);
        Check.due("11: run cleared it", x.clearBuffer(), 0);
    }

    private static void promise12FirstError() {
        for (String marked : TEXTS) {
            boolean complete = marked.endsWith("!");
            int error = marked.indexOf('|');
            String text = marked.replace("|", "").replace("!", "");
            FuseRows x = new FuseRows();
            Check.type(x, text);
            Check.due("12: firstError() of " + text, x.firstError(), error);
            Check.due("12: again", x.firstError(), error);
            if (complete) {
                Check.due("13: saved by run() of " + text, x.run() > 0 ? x.count(12) : 0, 1);
            } else {
                Check.noArgument("13: run() of " + text, x, () -> x.run());
                Check.due("13: the buffer stays", x.clearBuffer(), text.length());
            }
        }
    }

    /** Behind each beginning, the characters that may come next are the ones listed, no others. */
    private static void promise12EachCharacter() {
        String[][] next = {{"", "plhf"}, {"p", "ua"}, {"put:", "0123456789"}, {"put:0", ":"}, {"put:1", "012345:"},
            {"put:2", ":"}, {"put:1:", "0123456789"}, {"put:1:0", ";"}, {"put:1:1", "0123456789;"},
            {"put:1:5", "0123456789;"}, {"put:1:6", "0123;"}, {"put:1:7", ";"}, {"put:1:63", ";"},
            {"lock:", "0123456789"}, {"lock:0", ";"}, {"lock:1", "0123456789;"}, {"lock:2", ";"}, {"lock:19", ";"},
            {"heat:", "123456789"}, {"heat:1", ";"}, {"pass:", "123456789"}, {"pass:9", "0123456789;"},
            {"pass:99", ";"}, {"pass:10", ";"}, {"fix:", "0123456789"}, {"fix:1", "0123456789;"}, {"fix:0", ";"}, {"fix:1;", "plhf"}};
        for (String[] row : next) {
            for (int code = 33; code <= 126; code++) {
                FuseRows x = new FuseRows();
                Check.type(x, row[0]);
                x.append(code);
                int right = row[0].length() + (row[1].indexOf(code) >= 0 ? 1 : 0);
                Check.due("12: " + row[0] + (char) code, x.firstError(), right);
            }
        }
    }

    private static void promise13Run() {
        FuseRows x = new FuseRows();
        Check.type(x, "put:5:33;put:5:1;lock:0;pass:99;heat:6;fix:1");
        Check.due("13: run()", x.run(), 6);
        Check.due("13: the first value is overruled", x.history(5, 1), 33);
        Check.due("13: the value", x.key(5, 0), 1);
        Check.due("13: the lock", x.row(0, 7), 1);
        Check.due("13: the tick", x.count(0), 99);
        Check.due("13: values put", x.count(11), 2);
        Check.due("13: one saved state", x.count(12), 1);
        Check.due("13: the buffer is cleared", x.clearBuffer(), 0);
        Check.due("13: energy", x.count(8), 3 * (6 + 6 + 1 + 1 + 6));
        Check.due("13: undo of all", x.undo(), 0);
        Check.due("13: all is undone", x.count(1) * 10000 + x.count(0) + x.count(8) + x.count(11), 200000);

        FuseRows weak = new FuseRows();
        weak.blow(0, 0, 2);
        weak.blow(0, 1, 1);
        Check.type(weak, "fix:0;heat:3");
        Check.due("13: fix and heat", weak.run(), 2);
        Check.due("13: fixed", weak.fuse(0, 0, 0), 3);
        Check.due("13: heated", weak.fuse(0, 1, 0), 0);
        Check.type(weak, "pass:1;pass:1;pass:1;pass:1;pass:1;pass:1;pass:1;pass:1");
        Check.due("13: eight orders", weak.run(), 8);
        Check.type(weak, "fix:1;fix:1;fix:1;fix:1;fix:1;fix:1;fix:1;fix:1;fix:1;lock:9");
        Check.due("13: ten orders", weak.run(), 10);
        Check.due("13: the tenth one, too", weak.row(9, 7), 1);
    }

    private static void promise13RunStops() {
        FuseRows x = new FuseRows();
        Check.type(x, "put:1:2;lock:0;fix:0;pass:5");
        Check.due("13: up to the fix of a locked row", x.run(), 2);
        Check.due("13: no further order", x.count(0), 0);
        Check.due("13: the buffer is cleared", x.clearBuffer(), 0);
        Check.type(x, "lock:0;pass:5");
        Check.due("13: none is carried out", x.run(), 0);
        Check.due("13: saved, too", x.count(12), 2);
        Check.due("13: cleared, too", x.clearBuffer(), 0);
        Check.due("13: undo of nothing", x.undo(), 1);
        Check.due("13: what stands", x.row(0, 7), 1);
        for (int i = 0; i < 101; i++) {
            x.pass(99);
        }
        Check.type(x, "heat:9;pass:1;heat:9");
        Check.due("13: up to the tick 9999", x.run(), 1);
        x.undo();
        x.undo();
        Check.type(x, "pass:99;pass:1");
        Check.due("13: just up to it", x.run(), 1);
        x.blow(19, 3, 3);
        Check.type(x, "pass:1");
        Check.due("13: none above it", x.run(), 0);
        Check.type(x, "lock:3;put:1:1;lock:4");
        Check.due("13: no row left for a put", x.run(), 1);
        Check.due("13: the first lock", x.row(3, 7), 1);
        Check.due("13: not the second one", x.row(4, 7), 0);
    }

    private static void promise13RunRefused() {
        FuseRows x = new FuseRows();
        Check.noArgument("13: an empty buffer", x, () -> x.run());
        Check.type(x, "put:1:1;");
        Check.noArgument("13: nothing behind the last ;", x, () -> x.run());
        Check.due("13: nothing is saved", x.count(12), 0);
        Check.type(x, "put:1:1;x");
        Check.noArgument("13: an error in it", x, () -> x.run());
        Check.due("13: the buffer stays", x.clearBuffer(), 17);
        Check.due("13: nothing is put", x.count(11), 0);
    }

    private static void promise14Undo() {
        FuseRows x = new FuseRows();
        for (int i = 1; i <= 8; i++) {
            x.pass(i);
            Check.due("14: at most six states", x.count(12), Math.min(i, 6));
        }
        int[] ticks = {28, 21, 15, 10, 6, 3};
        for (int i = 0; i < 6; i++) {
            Check.due("14: undo", x.undo(), 5 - i);
            Check.due("14: the tick", x.count(0), ticks[i]);
        }
        Check.noState("14: none left", x, () -> x.undo());
        x.pass(50);
        x.pass(1);
        Check.due("14: again", x.undo(), 1);
        Check.due("14: the tick", x.count(0), 53);
        x.heat(1);
        Check.due("14: saved, though nothing changes", x.count(12), 2);
        Check.due("14: undo of it", x.undo(), 1);
        Check.due("14: and of the one before", x.undo(), 0);
        Check.due("14: the tick", x.count(0), 3);
        Check.noState("14: none left", x, () -> x.undo());
    }

    private static void promise14UndoRestoresAll() {
        FuseRows x = new FuseRows();
        x.set(3, 0);
        x.set(1, 2);
        x.put(2, 9);
        x.pass(4);
        Check.type(x, "lock:1");
        long before = x.digest();
        x.run();
        x.undo();
        Check.type(x, "lock:1");
        Check.due("14: run()", x.digest(), before);
        x.put(2, 10);
        x.undo();
        Check.due("14: put(), with what is counted", x.digest(), before);
        x.blow(4, 4, 3);
        x.undo();
        Check.due("14: blow()", x.digest(), before);
        x.drop(2);
        x.undo();
        Check.due("14: drop()", x.digest(), before);
        x.lock(0);
        x.undo();
        Check.due("14: lock()", x.digest(), before);
        x.refresh(0);
        x.undo();
        Check.due("14: refresh()", x.digest(), before);
        x.heat(9);
        x.undo();
        Check.due("14: heat()", x.digest(), before);
        x.set(0, 0);
        x.undo();
        Check.due("14: set()", x.digest(), before);
        x.pass(3);
        Check.due("14: the buffer is not restored", x.append(';'), 7);
        x.undo();
        Check.due("14: the buffer stays", x.clearBuffer(), 7);
    }
}
