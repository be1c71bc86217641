/** Promises 15 to 20: looks at fuses, rows, keys, their histories, numbers and settings. */
public final class LooksTest {
    private static final int MIN = Integer.MIN_VALUE;
    private static final int MAX = Integer.MAX_VALUE;

    public static void main(String[] args) {
        promise15Fuse();
        promise15FuseRefused();
        promise16Row();
        promise16Kinds();
        promise16RowRefused();
        promise17Key();
        promise17KeyOnce();
        promise17Steady();
        promise18History();
        promise19Count();
        promise19NextRow();
        promise20Setting();
        Check.end();
    }

    private static void promise15Fuse() {
        // what a fuse of the strength 0, 1, 2, 3 is, read once, where tick plus row plus fuse leaves 0, 1, 2
        String[] once = {"000", "100", "110", "111"};
        int[] thrice = {0, 0, 1, 1};
        for (int tick = 0; tick < 3; tick++) {
            FuseRows x = rowsOfAllStrengths();
            for (int passed = 0; passed < tick; passed++) {
                x.pass(1);
            }
            for (int row = 0; row < 20; row += 3) {
                for (int fuse = row % 4; fuse < 15; fuse += 3) {
                    int strength = (row + fuse / 3) % 4;
                    String at = "15: row " + row + ", fuse " + fuse + ", tick " + tick;
                    Check.due(at + ": strength", x.fuse(row, fuse, 0), strength);
                    Check.due(at + ": once", x.fuse(row, fuse, 1),
                            once[strength].charAt((tick + row + fuse) % 3) - '0');
                    Check.due(at + ": thrice", x.fuse(row, fuse, 2), thrice[strength]);
                }
            }
        }
        FuseRows last = new FuseRows();
        last.blow(19, 15, 2);
        // 19 and 15 leave the rest 1
        Check.due("15: the last fuse, once", last.fuse(19, 15, 1), 1);
        last.pass(1);
        Check.due("15: the last fuse, once, at the tick 1", last.fuse(19, 15, 1), 0);
        Check.due("15: the last fuse, thrice, at the tick 1", last.fuse(19, 15, 2), 1);
    }

    private static FuseRows rowsOfAllStrengths() {
        FuseRows x = new FuseRows();
        for (int row = 0; row < 20; row++) {
            for (int fuse = 0; fuse < 15; fuse++) {
                int strength = (row + fuse / 3) % 4;
                if (strength > 0) {
                    x.blow(row, fuse, strength);
                }
            }
        }
        return x;
    }

    private static void promise15FuseRefused() {
        FuseRows x = new FuseRows();
        x.blow(0, 1, 2);
        x.set(0, 0);
        Check.due("15: once, whatever is set", x.fuse(0, 1, 1), 1);
        x.pass(1);
        Check.due("15: once, whatever is set", x.fuse(0, 1, 1), 0);
        Check.due("15: thrice, whatever is set", x.fuse(0, 1, 2), 1);
        for (int wrong : new int[] {-1, 20, MIN, MAX}) {
            Check.noIndex("15: row " + wrong, x, () -> x.fuse(wrong, 0, 0));
            Check.noIndex("15: row and what " + wrong, x, () -> x.fuse(wrong, 0, wrong));
        }
        for (int wrong : new int[] {-1, 16, MIN, MAX}) {
            Check.noIndex("15: fuse " + wrong, x, () -> x.fuse(0, wrong, 0));
            Check.noIndex("15: fuse and what " + wrong, x, () -> x.fuse(0, wrong, wrong));
        }
        for (int wrong : new int[] {-1, 3, MIN, MAX}) {
            Check.noArgument("15: what " + wrong, x, () -> x.fuse(0, 0, wrong));
        }
        Check.due("15: nothing is saved by looks", x.count(12), 3);
    }

    private static void promise16Row() {
        FuseRows x = new FuseRows();
        x.put(9, 50);
        // 9 and 50 have five ones: the zeros are 5; two more fuses below the strength 3
        x.blow(0, 1, 1);
        x.blow(0, 14, 1);
        int[] due = {9 + 50 * 16 + 5 * 1024, 4, 9, 50, 5, 5, 2, 0, 7 * 3 + 2};
        for (int what = 0; what < 9; what++) {
            Check.due("16: row(0, " + what + ")", x.row(0, what), due[what]);
        }
        x.lock(0);
        Check.due("16: locked", x.row(0, 7), 1);
        Check.due("16: its mask", x.row(0, 0), 9 + 50 * 16 + 5 * 1024 + 32768);
        Check.due("16: an entry still", x.row(0, 1), 4);
        x.set(0, 0);
        // read once at the tick 0, the fuse 1 of the row 0 has the rest 1, the fuse 14 the rest 2
        Check.due("16: read once", x.row(0, 0), 9 + 50 * 16 + 5 * 1024 + 32768);
        x.pass(1);
        // now the rests are 2 and 0: the mark reads 1
        Check.due("16: the mark at the tick 1", x.row(0, 1), 2);
        x.pass(1);
        // now the fuse 1 reads 1: 11 and 50 with the check 5
        int[] then = {11 + 50 * 16 + 5 * 1024 + 32768, 3, 11, 50, 5, 4, 2, 1, 7 * 3 + 2 + 3};
        for (int what = 0; what < 9; what++) {
            Check.due("16: row(0, " + what + ") at the tick 2", x.row(0, what), then[what]);
        }
        Check.due("16: zeros of a free row", x.row(19, 5), 10);
    }

    private static void promise16Kinds() {
        FuseRows x = new FuseRows();
        Check.due("16: free", x.row(1, 1), 0);
        x.blow(1, 3, 1);
        Check.due("16: free, as read", x.row(1, 1), 0);
        x.blow(1, 15, 2);
        Check.due("16: void by a lock", x.row(1, 1), 1);
        x.blow(2, 14, 2);
        Check.due("16: void by a mark", x.row(2, 1), 1);
        x.blow(2, 13, 2);
        Check.due("16: overruled, whatever the check is", x.row(2, 1), 2);
        x.blow(3, 13, 2);
        Check.due("16: wrong: 8 for 10 zeros", x.row(3, 1), 3);
        x.blow(3, 11, 2);
        Check.due("16: an entry: 10 for 10 zeros", x.row(3, 1), 4);
        x.blow(3, 0, 2);
        Check.due("16: wrong: 10 for 9 zeros", x.row(3, 1), 3);
        x.blow(3, 10, 2);
        Check.due("16: a further blow forges nothing", x.row(3, 1), 3);
        x.blow(3, 15, 3);
        Check.due("16: wrong, and locked", x.row(3, 1), 3);
        for (int fuse = 0; fuse < 10; fuse++) {
            x.blow(4, fuse, 3);
        }
        Check.due("16: no zeros, and the check 0", x.row(4, 1), 4);
        x.blow(4, 15, 3);
        x.blow(5, 9, 3);
        Check.due("16: one fuse alone", x.row(5, 1), 3);
        Check.due("16: an entry, and locked", x.row(4, 1), 4);
        Check.due("16: the zeros without the fuse 9", x.row(5, 5), 9);
        Check.due("16: the fuse 9 counts 32", x.row(5, 3), 32);
        x.blow(5, 10, 3);
        Check.due("16: the fuse 10 counts 1 for the check", x.row(5, 4), 1);
    }

    private static void promise16RowRefused() {
        FuseRows x = new FuseRows();
        for (int wrong : new int[] {-1, 20, MIN, MAX}) {
            Check.noIndex("16: row " + wrong, x, () -> x.row(wrong, 0));
            Check.noIndex("16: row and what " + wrong, x, () -> x.row(wrong, wrong));
        }
        for (int wrong : new int[] {-1, 9, MIN, MAX}) {
            Check.noArgument("16: what " + wrong, x, () -> x.row(0, wrong));
        }
    }

    private static void properties(String when, FuseRows x, int key, int... due) {
        for (int what = 0; what < 6; what++) {
            Check.due(when + ": key(" + key + ", " + what + ")", x.key(key, what), due[what]);
        }
    }

    private static void promise17Key() {
        FuseRows x = new FuseRows();
        properties("17: nothing", x, 5, -1, -1, 0, 0, -1, 3);
        x.put(5, 60);
        x.put(5, 20);
        x.put(6, 0);
        x.set(3, 0);
        x.put(5, 40);
        properties("17: one overruled, two entries", x, 5, 40, 3, 2, 3, 60, 3);
        properties("17: the value 0", x, 6, 0, 2, 1, 1, 0, 3);
        x.drop(5);
        properties("17: all overruled", x, 5, -1, -1, 0, 3, 60, 3);
        x.blow(2, 0, 3);
        // the row 2 has the key 7 and a wrong check
        properties("17: a wrong row is none of the key", x, 7, -1, -1, 0, 0, -1, 3);
        properties("17: nor of the one before", x, 6, -1, -1, 0, 0, -1, 3);
        x.blow(2, 14, 3);
        properties("17: overruled, it is a row of the key", x, 7, -1, -1, 0, 1, 0, 3);
        x.blow(19, 14, 3);
        properties("17: a void row is none of the key 0", x, 0, -1, -1, 0, 0, -1, 3);
        for (int wrong : new int[] {-1, 16, MIN, MAX}) {
            Check.noArgument("17: key " + wrong, x, () -> x.key(wrong, 0));
        }
        for (int wrong : new int[] {-1, 6, MIN, MAX}) {
            Check.noArgument("17: what " + wrong, x, () -> x.key(0, wrong));
        }
    }

    private static void promise17KeyOnce() {
        FuseRows x = new FuseRows();
        x.put(3, 8);
        x.blow(0, 14, 1);
        x.set(0, 0);
        x.pass(1);
        // the mark of the row 0 has the rest 0 at the tick 1, 1 at the tick 2, 2 at the tick 3
        properties("17: read once, overruled now", x, 3, -1, -1, 0, 1, 8, 2);
        x.pass(1);
        properties("17: read once, an entry", x, 3, 8, 0, 1, 1, 8, 2);
        x.blow(0, 14, 2);
        properties("17: the strength 2, overruled, read thrice", x, 3, -1, -1, 0, 1, 8, 2);
    }

    private static void promise17Steady() {
        FuseRows x = new FuseRows();
        x.put(1, 4);
        Check.due("17: sure fuses", x.key(1, 5), 3);
        x.set(1, 2);
        x.put(2, 4);
        // key 2, value 4: the fuses 1, 6, 13 of the row 1, with the rests 2, 1, 2 at the tick 0:
        // read once, all are 1 but at the ticks 0 (1 and 13 fail) and 1 (6 fails)
        Check.due("17: fuses of 2", x.key(2, 5), 1);
        x.put(2, 5);
        x.heat(6);
        Check.due("17: no value read thrice", x.key(2, 0), -1);
        // the fuses of 1 tell 2, 4 only if all of them have the rest 0, which they never have at once
        Check.due("17: no value, and none read once", x.key(2, 5), 3);
        x.undo();
        x.set(0, 0);
        Check.due("17: whatever is set", x.key(1, 5), 3);
    }

    private static void promise18History() {
        FuseRows x = new FuseRows();
        x.put(4, 10);
        x.put(4, 20);
        x.put(5, 7);
        x.set(3, 0);
        x.put(4, 30);
        x.put(4, 0);
        int[] due = {0, 30, 20, 10, -1, -1};
        for (int back = 0; back < due.length; back++) {
            Check.due("18: history(4, " + back + ")", x.history(4, back), due[back]);
        }
        Check.due("18: far back", x.history(4, MAX), -1);
        Check.due("18: another key", x.history(5, 0), 7);
        Check.due("18: ahead of it", x.history(5, 1), -1);
        Check.due("18: an unknown key", x.history(15, 0), -1);
        x.blow(3, 0, 3);
        Check.due("18: a wrong row is left out", x.history(4, 1), 20);
        x.drop(4);
        Check.due("18: overruled ones stay", x.history(4, 0), 0);
        FuseRows last = new FuseRows();
        last.blow(18, 0, 3);
        last.put(15, 63);
        Check.due("18: the last row", last.history(15, 0), 63);
        Check.due("17: the greatest value, in the last row", last.key(15, 4), 63);
        for (int wrong : new int[] {-1, 16, MIN, MAX}) {
            Check.noArgument("18: key " + wrong, x, () -> x.history(wrong, 0));
        }
        for (int wrong : new int[] {-1, MIN}) {
            Check.noArgument("18: back " + wrong, x, () -> x.history(0, wrong));
        }
    }

    private static void promise19Count() {
        FuseRows x = new FuseRows();
        x.put(1, 1);
        x.put(1, 2);
        x.put(2, 3);
        x.lock(17);
        x.blow(5, 0, 2);
        x.blow(6, 14, 3);
        x.blow(7, 3, 1);
        x.blow(8, 0, 3);
        x.pass(12);
        // rows: 13 free, 2 void (6, 17), 1 overruled (0), 2 wrong (5, 8), 2 entries (1, 2)
        int energy = 3 * (3 + 3 + 6 + 1) + 3 + 2 + 3 + 1 + 3;
        int[] due = {12, 13, 2, 1, 2, 2, 1, 2, energy, 2, 18, 3, 6};
        for (int what = 0; what < due.length; what++) {
            Check.due("19: count(" + what + ")", x.count(what), due[what]);
        }
        FuseRows ends = new FuseRows();
        ends.put(0, 0);
        ends.put(15, 0);
        Check.due("19: the first key and the last one", ends.count(9), 2);
        for (int wrong : new int[] {-1, 13, MIN, MAX}) {
            Check.noArgument("19: count(" + wrong + ")", x, () -> x.count(wrong));
        }
    }

    private static void promise19NextRow() {
        FuseRows x = new FuseRows();
        Check.due("19: all rows are free", x.count(10), 0);
        x.blow(0, 15, 1);
        Check.due("19: a weak lock", x.count(10), 0);
        x.set(0, 0);
        Check.due("19: it reads 1 once", x.count(10), 1);
        Check.due("19: but does not lock", x.count(6), 0);
        x.pass(1);
        x.blow(0, 15, 2);
        x.pass(1);
        Check.due("19: free, as read, but locked", x.count(1), 20);
        Check.due("19: refused", x.count(10), -1);
    }

    private static void promise20Setting() {
        FuseRows x = new FuseRows();
        int[] due = {0, 2, 3, 0};
        for (int setting = 0; setting < 4; setting++) {
            x.set(setting, due[setting]);
        }
        for (int setting = 0; setting < 4; setting++) {
            Check.due("20: setting(" + setting + ")", x.setting(setting), due[setting]);
        }
        x.undo();
        Check.due("20: undone", x.setting(3), 1);
        for (int wrong : new int[] {-1, 4, MIN, MAX}) {
            Check.noIndex("20: setting " + wrong, x, () -> x.setting(wrong));
        }
    }
}
