/** Promises 21 to 26: what would be, the worst row, the share of sure fuses, and the hash. */
public final class OutcomesTest {
    private static final int MIN = Integer.MIN_VALUE;
    private static final int MAX = Integer.MAX_VALUE;

    public static void main(String[] args) {
        promise21IfPut();
        promise21IfPutRefused();
        promise22IfHeated();
        promise23IfRead();
        promise24Worst();
        promise25SureShare();
        promise26Digest();
        Check.end();
    }

    private static void ifPut(String when, FuseRows x, int key, int value, int... due) {
        long before = x.digest();
        for (int what = 0; what < 5; what++) {
            Check.due(when + ": ifPut(" + key + ", " + value + ", " + what + ")", x.ifPut(key, value, what),
                    due[what]);
        }
        Check.due(when + ": nothing is changed", x.digest(), before);
    }

    private static void promise21IfPut() {
        FuseRows x = new FuseRows();
        ifPut("21: new", x, 0, 33, 1, 4, 9, 33, 0);
        x.put(5, 1);
        ifPut("21: with a mark", x, 5, 2, 1, 4, 3 * (2 + 1 + 3) + 3, 2, 1);
        ifPut("21: another key", x, 6, 2, 1, 4, 3 * 6, 2, 0);
        x.set(3, 0);
        x.put(5, 2);
        ifPut("21: no marks", x, 5, 3, 1, 4, 3 * (2 + 2 + 2), 3, 0);
        x.set(3, 1);
        ifPut("21: two marks", x, 5, 3, 1, 4, 3 * (2 + 2 + 2) + 6, 3, 2);
        x.lock(1);
        ifPut("21: one of them locked", x, 5, 3, 1, 4, 3 * (2 + 2 + 2) + 3, 3, 1);
        x.set(1, 1);
        ifPut("21: it would read free, and the old value stays", x, 5, 3, 1, 0, 6 + 1, 2, 1);
        x.set(2, 2);
        ifPut("21: a second try, with 2 each", x, 5, 3, 2, 4, 6 + 12 + 1, 3, 1);
        x.set(0, 0);
        x.set(2, 1);
        // row 2, tick 0: the fuses 0, 2, 4, 5, 11, 12 (6 zeros) have the rests 2, 1, 0, 1, 1, 2
        ifPut("21: it would read wrong", x, 5, 3, 1, 3, 6 + 1, 2, 1);
        x.set(2, 3);
        ifPut("21: three tries", x, 5, 3, 3, 4, 6 + 10 + 6 + 1, 3, 1);
        FuseRows weak = new FuseRows();
        weak.set(1, 1);
        ifPut("21: none has a value then", weak, 5, 3, 1, 0, 6, -1, 0);
    }

    private static void promise21IfPutRefused() {
        FuseRows x = new FuseRows();
        x.blow(19, 0, 3);
        ifPut("21: no row left", x, 1, 1, -1, -1, -1, -1, -1);
        for (int wrong : new int[] {-1, 16, MIN, MAX}) {
            Check.noArgument("21: key " + wrong, x, () -> x.ifPut(wrong, 0, 0));
        }
        for (int wrong : new int[] {-1, 64, MIN, MAX}) {
            Check.noArgument("21: value " + wrong, x, () -> x.ifPut(0, wrong, 0));
        }
        for (int wrong : new int[] {-1, 5, MIN, MAX}) {
            Check.noArgument("21: what " + wrong, x, () -> x.ifPut(0, 0, wrong));
        }
        x.undo();
        x.lock(0);
        x.set(0, 0);
        Check.due("21: behind a void row", x.ifPut(1, 1, 1), 4);
        x.undo();
        x.undo();
        x.blow(0, 15, 2);
        x.set(0, 0);
        x.pass(2);
        ifPut("21: free, but locked", x, 1, 1, -1, -1, -1, -1, -1);
    }

    private static void ifHeated(String when, FuseRows x, int degrees, int... due) {
        long before = x.digest();
        for (int what = 0; what < 3; what++) {
            Check.due(when + ": ifHeated(" + degrees + ", " + what + ")", x.ifHeated(degrees, what), due[what]);
        }
        Check.due(when + ": nothing is changed", x.digest(), before);
    }

    private static void promise22IfHeated() {
        FuseRows x = new FuseRows();
        for (int degrees = 1; degrees <= 9; degrees++) {
            ifHeated("22: new", x, degrees, 0, 0, 0);
        }
        x.put(1, 1);
        x.set(1, 2);
        x.put(2, 1);
        x.put(1, 2);
        x.blow(5, 0, 1);
        x.blow(1, 15, 2);
        // 2: 4 fuses for key 2 and value 1 (fuses 1, 4, 13), for 1 and 2 (fuses 0, 5, 13), the mark, the lock
        ifHeated("22: too cold", x, 2, 0, 0, 0);
        ifHeated("22: only the weakest", x, 3, 1, 0, 0);
        ifHeated("22: only the weakest", x, 5, 1, 0, 0);
        // row 0: overruled, then an entry; rows 1 and 2: entries, then free; the key 1 has 1 for 2, the key 2 none
        ifHeated("22: those of 2, too", x, 6, 9, 3, 2);
        ifHeated("22: the hottest", x, 9, 9, 3, 2);
        x.heat(6);
        Check.due("22: as heat() does", x.key(1, 0) * 10 + x.key(2, 0), 9);
        x.set(0, 0);
        FuseRows mark = new FuseRows();
        mark.put(3, 3);
        mark.blow(0, 14, 2);
        ifHeated("22: a value where there is none", mark, 6, 1, 1, 1);
        FuseRows ends = new FuseRows();
        ends.set(1, 2);
        ends.put(0, 1);
        ends.put(15, 1);
        // 3 fuses for key 0 and value 1 (fuses 4, 10, 13), 7 for 15 and 1 (fuses 0 to 4, 10, 12)
        ifHeated("22: the first key and the last one", ends, 6, 10, 2, 2);
        for (int wrong : new int[] {-1, 0, 10, MIN, MAX}) {
            Check.noArgument("22: degrees " + wrong, x, () -> x.ifHeated(wrong, 0));
        }
        for (int wrong : new int[] {-1, 3, MIN, MAX}) {
            Check.noArgument("22: what " + wrong, x, () -> x.ifHeated(1, wrong));
        }
    }

    private static void promise23IfRead() {
        FuseRows x = new FuseRows();
        x.put(1, 1);
        x.set(1, 2);
        x.put(2, 4);
        x.put(3, 0);
        x.blow(0, 14, 1);
        long before = x.digest();
        // row 0 is overruled, read once, where tick + 14 leaves 0: at the tick 1;
        // row 1 (fuses 1, 6, 13) has the rests 2, 1, 2 at the tick 0: a fuse of 2 fails where it is 2, so that
        // all are right at the tick 2 alone; row 2 (fuses 0, 1, 13) has the rests 2, 0, 0: right at the tick 1 alone
        int[] once = {2, 2, 1};
        for (int ticks = 0; ticks <= 99; ticks++) {
            Check.due("23: ifRead(" + ticks + ", false)", x.ifRead(ticks, false), once[ticks % 3]);
            Check.due("23: ifRead(" + ticks + ", true)", x.ifRead(ticks, true), 0);
        }
        Check.due("23: nothing is changed", x.digest(), before);
        x.set(0, 0);
        Check.due("23: as now", x.ifRead(0, false), 0);
        Check.due("23: read thrice for once", x.ifRead(0, true), 2);
        // at the tick 0 the key 1 alone has a value, at 1 the key 3 alone, at 2 the keys 1 and 2
        Check.due("23: another one read once", x.ifRead(1, false), 2);
        Check.due("23: one more read once", x.ifRead(2, false), 1);
        for (int i = 0; i < 101; i++) {
            x.pass(99);
        }
        Check.due("23: beyond the last tick", x.ifRead(1, false), 2);
        FuseRows ends = new FuseRows();
        ends.set(1, 2);
        ends.put(0, 1);
        ends.put(15, 1);
        // row 0 (fuses 4, 10, 13) has the rests 1, 1, 1 at the tick 0, so that it fails at the tick 1;
        // row 1 (fuses 0 to 4, 10, 12) has all rests at each tick, so that it always fails
        Check.due("23: the last key has none", ends.ifRead(0, false), 1);
        Check.due("23: neither has one", ends.ifRead(1, false), 2);
        for (int wrong : new int[] {-1, 100, MIN, MAX}) {
            Check.noArgument("23: ifRead(" + wrong + ", true)", x, () -> x.ifRead(wrong, true));
            Check.noArgument("23: ifRead(" + wrong + ", false)", x, () -> x.ifRead(wrong, false));
        }
    }

    private static void promise24Worst() {
        FuseRows x = new FuseRows();
        Check.due("24: no entry", x.worst(), -1);
        for (int key = 0; key < 6; key++) {
            x.put(key, 0);
        }
        Check.due("24: no doubtful fuse", x.worst(), -1);
        x.blow(7, 0, 1);
        x.blow(7, 1, 1);
        x.blow(7, 2, 1);
        Check.due("24: a free row", x.worst(), -1);
        x.blow(4, 9, 1);
        Check.due("24: the only one", x.worst(), 4);
        x.blow(2, 9, 1);
        Check.due("24: the lowest one of several", x.worst(), 2);
        x.blow(4, 15, 1);
        Check.due("24: the most doubtful one", x.worst(), 4);
        x.lock(4);
        Check.due("24: not a locked row", x.worst(), 2);
        x.blow(3, 14, 2);
        x.blow(3, 9, 1);
        Check.due("24: not an overruled row", x.worst(), 2);
        x.blow(5, 8, 2);
        x.blow(5, 9, 1);
        Check.due("24: not a wrong row", x.worst(), 2);
        x.refresh(2);
        Check.due("24: a fuse of 1 stays doubtful", x.worst(), 2);
        x.heat(3);
        Check.due("24: it has healed", x.worst(), -1);
        x.set(1, 2);
        x.put(9, 9);
        Check.due("24: fuses of 2 are doubtful", x.worst(), 6);
        x.refresh(6);
        Check.due("24: refreshed", x.worst(), -1);
        x.blow(0, 4, 1);
        Check.due("24: the first row", x.worst(), 0);
    }

    private static void promise25SureShare() {
        FuseRows x = new FuseRows();
        Check.due("25: none blown", x.sureShare(), 1.0);
        x.blow(0, 0, 1);
        Check.due("25: none sure", x.sureShare(), 0.0);
        x.blow(0, 1, 3);
        Check.due("25: one of two", x.sureShare(), 0.5);
        x.blow(19, 14, 2);
        Check.due("25: one of three", x.sureShare(), 1.0 / 3.0);
        x.blow(19, 14, 3);
        Check.due("25: two of three", x.sureShare(), 2.0 / 3.0);
        x.blow(0, 0, 3);
        Check.due("25: all", x.sureShare(), 1.0);
    }

    private static void promise26Digest() {
        FuseRows x = new FuseRows();
        Model m = new Model();
        Check.due("26: new", x.digest(), m.digest());
        x.put(3, 9);
        m.save();
        m.put(3, 9);
        x.put(3, 17);
        m.save();
        m.put(3, 17);
        Check.due("26: entries", x.digest(), m.digest());
        x.set(1, 2);
        m.save();
        m.settings[1] = 2;
        x.put(12, 63);
        m.save();
        m.put(12, 63);
        x.blow(8, 1, 1);
        m.save();
        m.blow(8, 1, 1);
        Check.due("26: doubtful fuses", x.digest(), m.digest());
        x.set(0, 0);
        m.save();
        m.settings[0] = 0;
        x.pass(5);
        m.save();
        m.tick += 5;
        Check.due("26: read once, and more states than are saved", x.digest(), m.digest());
        Check.type(x, "put:1:2;~!");
        m.buffer.append("put:1:2;~!");
        Check.due("26: a text", x.digest(), m.digest());
        x.blow(19, 3, 3);
        m.save();
        m.blow(19, 3, 3);
        Check.due("26: where a put is refused", x.digest(), m.digest());
        x.clearBuffer();
        m.buffer.setLength(0);
        Check.due("26: no text any more", x.digest(), m.digest());
        promise26Shares();
    }

    /** Many shares, for the bits of them. */
    private static void promise26Shares() {
        FuseRows x = new FuseRows();
        Model m = new Model();
        for (int n = 0; n < 285; n++) {
            int row = n / 15;
            int fuse = n % 15;
            int charge = n % 10 == 7 ? 3 : 1;
            x.blow(row, fuse, charge);
            m.save();
            m.blow(row, fuse, charge);
            if (n % 3 == 0) {
                Check.due("26: share " + x.sureShare(), x.digest(), m.digest());
            }
        }
        FuseRows one = new FuseRows();
        Model oneModel = new Model();
        one.blow(19, 14, 3);
        oneModel.save();
        oneModel.blow(19, 14, 3);
        for (int n = 0; n < 256; n++) {
            one.blow(n / 15, n % 15, 1);
            oneModel.save();
            oneModel.blow(n / 15, n % 15, 1);
            if (n % 17 == 0 || n > 250) {
                Check.due("26: one of " + (n + 2), one.digest(), oneModel.digest());
            }
        }
    }
}
