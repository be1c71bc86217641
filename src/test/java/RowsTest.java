/** Promises 1 to 9: a new object, and the calls that change fuses, the tick and the settings. */
public final class RowsTest {
    private static final int MIN = Integer.MIN_VALUE;
    private static final int MAX = Integer.MAX_VALUE;

    public static void main(String[] args) {
        promise1New();
        promise2Blow();
        promise2BlowRefused();
        promise3Put();
        promise3PutTries();
        promise3PutRow();
        promise3PutMarks();
        promise3PutRefused();
        promise4Drop();
        promise5Lock();
        promise6Refresh();
        promise7Heat();
        promise8Pass();
        promise9Set();
        Check.end();
    }

    private static void promise1New() {
        FuseRows x = new FuseRows();
        FuseRows other = new FuseRows();
        other.blow(3, 3, 3);
        other.set(1, 1);
        other.append('p');
        for (int row = 0; row < 20; row++) {
            for (int fuse = 0; fuse < 16; fuse++) {
                Check.due("1: strength of a new fuse", x.fuse(row, fuse, 0), 0);
            }
        }
        int[] counts = {0, 20, 0, 0, 0, 0, 0, 0, 0, 0, 0, 0, 0};
        for (int what = 0; what < counts.length; what++) {
            Check.due("1: new count(" + what + ")", x.count(what), counts[what]);
        }
        int[] settings = {1, 3, 1, 1};
        for (int setting = 0; setting < 4; setting++) {
            Check.due("1: new setting(" + setting + ")", x.setting(setting), settings[setting]);
        }
        Check.due("1: new firstError()", x.firstError(), 0);
        Check.due("1: new clearBuffer()", x.clearBuffer(), 0);
        Check.noState("1: new undo()", x, () -> x.undo());
    }

    private static void promise2Blow() {
        FuseRows x = new FuseRows();
        Check.due("2: first blow", x.blow(4, 7, 2), 2);
        Check.due("2: a weaker blow", x.blow(4, 7, 1), 2);
        Check.due("2: a stronger blow", x.blow(4, 7, 3), 3);
        Check.due("2: a blow on a full one", x.blow(4, 7, 1), 3);
        Check.due("2: energy counts all charges", x.count(8), 7);
        Check.due("2: saved states", x.count(12), 4);
        Check.due("2: the neighbour", x.fuse(4, 6, 0), 0);
        Check.due("2: the other neighbour", x.fuse(4, 8, 0), 0);
        Check.due("2: the row behind", x.fuse(5, 7, 0), 0);
        Check.due("2: 1 becomes 2", x.blow(19, 15, 1) * 10 + x.blow(19, 15, 2), 12);
        Check.due("2: the blow that locked the row", x.row(19, 7), 1);
        Check.due("2: the first fuse", x.blow(0, 0, 1), 1);
    }

    private static void promise2BlowRefused() {
        FuseRows x = new FuseRows();
        x.blow(2, 15, 1);
        x.blow(2, 0, 1);
        x.blow(2, 15, 2);
        for (int wrong : new int[] {-1, 20, MIN, MAX}) {
            Check.noIndex("2: blow of row " + wrong, x, () -> x.blow(wrong, 0, 1));
            Check.noIndex("2: blow of row, and of charge too", x, () -> x.blow(wrong, 0, 0));
        }
        for (int wrong : new int[] {-1, 16, MIN, MAX}) {
            Check.noIndex("2: blow of fuse " + wrong, x, () -> x.blow(2, wrong, 4));
        }
        for (int wrong : new int[] {-1, 0, 4, MIN, MAX}) {
            Check.noArgument("2: charge " + wrong + " on a locked row", x, () -> x.blow(2, 0, wrong));
            Check.noArgument("2: charge " + wrong, x, () -> x.blow(0, 0, wrong));
        }
        Check.noState("2: blow of a locked row", x, () -> x.blow(2, 1, 1));
        x.set(0, 0);
        Check.noState("2: a lock is read thrice, whatever is set", x, () -> x.blow(2, 1, 1));
        x.pass(1);
        Check.noState("2: a lock is read thrice, at each tick", x, () -> x.blow(2, 1, 1));
        x.pass(1);
        Check.noState("2: a lock is read thrice, at each tick", x, () -> x.blow(2, 1, 1));
    }

    private static void promise3Put() {
        FuseRows x = new FuseRows();
        Check.due("3: put", x.put(5, 33), 1);
        Check.due("3: 5, 33 * 16, 6 zeros * 1024", x.row(0, 0), 5 + 33 * 16 + 6 * 1024);
        Check.due("3: put of the greatest", x.put(15, 63), 1);
        Check.due("3: no zeros", x.row(1, 0), 1023);
        Check.due("3: put of the least", x.put(0, 0), 1);
        Check.due("3: ten zeros", x.row(2, 0), 10 * 1024);
        Check.due("3: entries", x.count(5), 3);
        Check.due("3: values put", x.count(11), 3);
        Check.due("3: energy", x.count(8), 3 * (6 + 10 + 2));
        Check.due("3: saved states", x.count(12), 3);
        Check.due("3: put overrules", x.put(5, 1), 1);
        Check.due("3: the mark", x.row(0, 0), 5 + 33 * 16 + 6 * 1024 + 16384);
        Check.due("3: the new value", x.key(5, 0), 1);
    }

    private static void promise3PutTries() {
        FuseRows x = new FuseRows();
        x.set(1, 1);
        Check.due("3: one weak try", x.put(7, 0), 1);
        Check.due("3: it reads free", x.row(0, 1), 0);
        Check.due("3: it is written, whatever it reads", x.count(11), 1);
        Check.due("3: the next one is written there, too", x.put(8, 0), 1);
        // 7 has the zeros 7 (fuses 0, 1, 2, 10, 11, 12), 8 has the zeros 9 (fuses 3, 10, 13)
        Check.due("3: the strengths of both", x.row(0, 8), 8);
        Check.due("3: each charge is counted", x.count(8), 9);
        x.set(2, 3);
        Check.due("3: a second try, stronger by 1", x.put(8, 0), 2);
        Check.due("3: 8 reads right", x.key(8, 0), 0);
        Check.due("3: energy of both tries", x.count(8), 9 + 3 + 6);

        FuseRows once = new FuseRows();
        once.set(0, 0);
        once.set(1, 1);
        once.set(2, 3);
        Check.due("3: three tries, read once", once.put(7, 0), 3);
        int[] strengths = {1, 2, 3, 0, 0, 0, 0, 0, 0, 0, 2, 3, 1, 0, 0, 0};
        for (int fuse = 0; fuse < 16; fuse++) {
            Check.due("3: strength of the fuse " + fuse, once.fuse(0, fuse, 0), strengths[fuse]);
        }
        Check.due("3: energy of three tries", once.count(8), 6 + 8 + 6);
        Check.due("3: it reads right", once.key(7, 0), 0);

        FuseRows two = new FuseRows();
        two.set(0, 0);
        two.set(1, 1);
        two.set(2, 2);
        Check.due("3: two tries at most", two.put(7, 0), 2);
        Check.due("3: it reads wrong", two.row(0, 1), 3);
        Check.due("3: values put", two.count(11), 1);
        two.set(1, 2);
        two.set(2, 3);
        Check.due("3: the charge of setting 1 comes first", two.put(1, 0), 2);
        // row 1, key 1: fuses 0, 10, 13 (rests 1, 2, 2): 2 each, then 3 for the fuses 10 and 13
        Check.due("3: strengths then", two.row(1, 8), 2 + 3 + 3);
    }

    private static void promise3PutRow() {
        FuseRows x = new FuseRows();
        x.blow(6, 14, 2);
        Check.due("3: behind a void row", x.count(10), 7);
        x.put(1, 1);
        Check.due("3: the entry stands there", x.key(1, 1), 7);
        x.blow(9, 0, 1);
        Check.due("3: a fuse that reads 0 leaves a row free", x.count(10), 8);
        x.set(0, 0);
        Check.due("3: read once, it is 1 at the tick 0", x.count(10), 10);
        x.pass(1);
        Check.due("3: and 0 at the tick 1", x.count(10), 8);
        x.blow(19, 0, 3);
        Check.due("3: none behind the last row", x.count(10), -1);
    }

    private static void promise3PutMarks() {
        FuseRows x = new FuseRows();
        x.set(3, 0);
        x.put(5, 1);
        x.put(5, 2);
        x.put(6, 3);
        x.put(5, 4);
        Check.due("3: no marks if setting 3 is 0", x.key(5, 2), 3);
        x.lock(1);
        x.set(3, 1);
        x.set(1, 2);
        x.put(5, 7);
        Check.due("3: the mark of the first row, with the charge", x.fuse(0, 14, 0), 2);
        Check.due("3: no mark in a locked row", x.fuse(1, 14, 0), 0);
        Check.due("3: no mark of another key", x.fuse(2, 14, 0), 0);
        Check.due("3: the mark of the fourth row", x.fuse(3, 14, 0), 2);
        Check.due("3: the new row has none", x.fuse(4, 14, 0), 0);
        Check.due("3: entries left", x.key(5, 2), 2);
        x.set(1, 1);
        x.put(5, 0);
        Check.due("3: weak marks, too, though the new row reads free", x.fuse(4, 14, 0), 1);
        Check.due("3: overruled ones get no further mark", x.fuse(0, 14, 0), 2);
        Check.due("3: a weak mark does not read", x.key(5, 0), 7);
        int energy = x.count(8);
        x.put(5, 0);
        // key 5 with the value 0 has 8 zeros: fuses 0, 2 and 13; and the weak mark is blown once more
        Check.due("3: a mark that stays weak costs energy again", x.count(8) - energy, 4);
    }

    private static void promise3PutRefused() {
        FuseRows x = new FuseRows();
        for (int i = 0; i < 19; i++) {
            x.put(i % 16, i);
        }
        for (int wrong : new int[] {-1, 16, MIN, MAX}) {
            Check.noArgument("3: put of key " + wrong, x, () -> x.put(wrong, 0));
        }
        for (int wrong : new int[] {-1, 64, MIN, MAX}) {
            Check.noArgument("3: put of value " + wrong, x, () -> x.put(0, wrong));
        }
        x.put(3, 3);
        Check.noState("3: put with no row left", x, () -> x.put(0, 0));
        Check.noArgument("3: key out of range, and no row left", x, () -> x.put(16, 0));
        Check.noArgument("3: value out of range, and no row left", x, () -> x.put(0, 64));

        FuseRows locked = new FuseRows();
        locked.set(0, 0);
        locked.pass(2);
        locked.blow(0, 15, 2);
        // read once at the tick 2, the fuse 15 of the row 0 has the rest 2: the row is free, but locked
        Check.due("3: the row reads free", locked.row(0, 1), 0);
        Check.noState("3: the row is locked", locked, () -> locked.put(1, 1));
        locked.pass(1);
        Check.due("3: behind the void row", locked.count(10), 1);
        Check.due("3: put behind it", locked.put(1, 1), 1);
    }

    private static void promise4Drop() {
        FuseRows x = new FuseRows();
        x.set(3, 0);
        x.set(1, 2);
        x.put(5, 1);
        x.put(5, 2);
        x.put(6, 1);
        x.put(5, 3);
        x.lock(1);
        int energy = x.count(8);
        Check.due("4: drop", x.drop(5), 2);
        Check.due("4: the charge is 3", x.fuse(0, 14, 0) + x.fuse(3, 14, 0), 6);
        Check.due("4: energy", x.count(8) - energy, 6);
        Check.due("4: a locked row stays an entry", x.key(5, 0), 2);
        Check.due("4: other keys stay", x.key(6, 0), 1);
        Check.due("4: drop again", x.drop(5), 0);
        Check.due("4: drop of the key 6", x.drop(6), 1);
        Check.due("4: no value any more", x.key(6, 0), -1);
        x.undo();
        Check.due("4: undone", x.key(6, 0), 1);
        Check.due("4: drop of an unknown key", x.drop(15), 0);
        Check.due("4: it is saved, too", x.undo(), 5);
        for (int wrong : new int[] {-1, 16, MIN, MAX}) {
            Check.noArgument("4: drop of " + wrong, x, () -> x.drop(wrong));
        }
    }

    private static void promise5Lock() {
        FuseRows x = new FuseRows();
        x.put(1, 2);
        Check.due("5: lock", x.lock(0), 1);
        Check.due("5: lock of a free row", x.lock(19), 2);
        Check.due("5: the strength", x.fuse(19, 15, 0), 3);
        Check.due("5: a free row becomes void", x.row(19, 1), 1);
        Check.due("5: an entry stays one", x.row(0, 1), 4);
        x.blow(3, 15, 1);
        Check.due("5: a weak lock does not lock", x.count(6), 2);
        Check.due("5: lock of it", x.lock(3), 3);
        Check.due("5: saved states", x.count(12), 5);
        Check.due("5: energy", x.count(8), 3 * 3 + 1 + 3 * fusesOf(1, 2));
        for (int wrong : new int[] {-1, 20, MIN, MAX}) {
            Check.noIndex("5: lock of " + wrong, x, () -> x.lock(wrong));
        }
        Check.noState("5: lock again", x, () -> x.lock(0));
        x.blow(4, 15, 2);
        Check.noState("5: lock of a row that a blow locked", x, () -> x.lock(4));
        x.heat(6);
        Check.due("5: heat heals a lock of 2", x.count(6), 3);
        Check.due("5: so it can be locked again", x.lock(4), 4);
    }

    private static int fusesOf(int key, int value) {
        int ones = Integer.bitCount(key) + Integer.bitCount(value);
        return ones + Integer.bitCount(10 - ones);
    }

    private static void promise6Refresh() {
        FuseRows x = new FuseRows();
        x.blow(0, 0, 1);
        x.blow(0, 1, 2);
        x.blow(0, 2, 3);
        x.blow(0, 14, 2);
        x.blow(0, 15, 1);
        x.blow(1, 1, 2);
        Check.due("6: refresh", x.refresh(0), 2);
        Check.due("6: 1 stays 1", x.fuse(0, 0, 0), 1);
        Check.due("6: 2 becomes 3", x.fuse(0, 1, 0), 3);
        Check.due("6: 3 stays 3", x.fuse(0, 2, 0), 3);
        Check.due("6: the mark becomes 3", x.fuse(0, 14, 0), 3);
        Check.due("6: the weak lock stays", x.fuse(0, 15, 0), 1);
        Check.due("6: 0 stays 0", x.fuse(0, 3, 0), 0);
        Check.due("6: another row stays", x.fuse(1, 1, 0), 2);
        Check.due("6: energy, with those of 3", x.count(8), 11 + 9);
        Check.due("6: refresh again", x.refresh(0), 0);
        Check.due("6: energy again", x.count(8), 11 + 18);
        Check.due("6: refresh of an empty row", x.refresh(19), 0);
        x.undo();
        x.undo();
        Check.due("6: undoable", x.count(8), 11 + 9);
        x.set(0, 0);
        x.pass(1);
        x.blow(1, 2, 1);
        Check.due("6: read thrice, whatever is set", x.refresh(1), 1);
        for (int wrong : new int[] {-1, 20, MIN, MAX}) {
            Check.noIndex("6: refresh of " + wrong, x, () -> x.refresh(wrong));
        }
        x.lock(0);
        Check.noState("6: refresh of a locked row", x, () -> x.refresh(0));
        x.blow(5, 15, 2);
        Check.noState("6: refresh of a row with a lock of 2", x, () -> x.refresh(5));
    }

    private static void promise7Heat() {
        int[] weaker = {0, 0, 3, 3, 3, 5, 5, 5, 5};
        for (int degrees = 1; degrees <= 9; degrees++) {
            FuseRows x = new FuseRows();
            x.blow(0, 0, 1);
            x.blow(7, 3, 1);
            x.blow(0, 1, 2);
            x.blow(0, 2, 3);
            x.blow(19, 14, 1);
            x.blow(19, 15, 2);
            Check.due("7: heat(" + degrees + ")", x.heat(degrees), weaker[degrees - 1]);
            Check.due("7: 1 after " + degrees, x.fuse(0, 0, 0), degrees >= 3 ? 0 : 1);
            Check.due("7: 2 after " + degrees, x.fuse(0, 1, 0), degrees >= 6 ? 1 : 2);
            Check.due("7: 3 after " + degrees, x.fuse(0, 2, 0), 3);
            Check.due("7: 1 in a locked row", x.fuse(19, 14, 0), degrees >= 3 ? 0 : 1);
            Check.due("7: the lock of 2", x.fuse(19, 15, 0), degrees >= 6 ? 1 : 2);
            Check.due("7: energy stays", x.count(8), 10);
            Check.due("7: undoable", x.undo(), 5);
            Check.due("7: undone", x.row(0, 8), 6);
        }
        FuseRows x = new FuseRows();
        Check.due("7: nothing to heat", x.heat(9), 0);
        Check.due("7: it is saved, too", x.count(12), 1);
        for (int wrong : new int[] {-1, 0, 10, MIN, MAX}) {
            Check.noArgument("7: heat(" + wrong + ")", x, () -> x.heat(wrong));
        }
    }

    private static void promise8Pass() {
        FuseRows x = new FuseRows();
        Check.due("8: pass(1)", x.pass(1), 1);
        Check.due("8: undo", x.undo(), 0);
        for (int i = 1; i <= 101; i++) {
            Check.due("8: pass(99)", x.pass(99), 99L * i);
        }
        Check.due("8: the last tick", x.count(0), 9999);
        Check.noState("8: above it", x, () -> x.pass(1));
        Check.noArgument("8: above it, and out of range", x, () -> x.pass(100));
        x.undo();
        Check.noArgument("8: pass(0)", x, () -> x.pass(0));
        Check.due("8: a part of the way", x.pass(98), 9998);
        Check.noState("8: just above it", x, () -> x.pass(2));
        Check.due("8: just on it", x.pass(1), 9999);
        for (int wrong : new int[] {-1, 0, 100, MIN, MAX}) {
            Check.noArgument("8: pass(" + wrong + ")", x, () -> x.pass(wrong));
        }
        x.blow(0, 0, 1);
        // 9999 leaves the rest 0
        Check.due("8: the fuse at the last tick", x.fuse(0, 0, 1), 1);
    }

    private static void promise9Set() {
        FuseRows x = new FuseRows();
        int[] lowest = {0, 1, 1, 0};
        int[] highest = {1, 3, 3, 1};
        int[] first = {1, 3, 1, 1};
        for (int setting = 0; setting < 4; setting++) {
            int s = setting;
            Check.due("9: to the lowest", x.set(s, lowest[s]), first[s]);
            Check.due("9: to the highest", x.set(s, highest[s]), lowest[s]);
            Check.due("9: to the same", x.set(s, highest[s]), highest[s]);
            for (int wrong : new int[] {lowest[s] - 1, highest[s] + 1, MIN, MAX}) {
                Check.noArgument("9: set(" + s + ", " + wrong + ")", x, () -> x.set(s, wrong));
            }
        }
        Check.due("9: saved, also what changes nothing", x.count(12), 6);
        for (int wrong : new int[] {-1, 4, MIN, MAX}) {
            Check.noIndex("9: setting " + wrong, x, () -> x.set(wrong, 1));
            Check.noIndex("9: setting " + wrong + ", and value", x, () -> x.set(wrong, -1));
        }
        x.undo();
        x.undo();
        Check.due("9: undone", x.setting(3), 0);
    }
}
