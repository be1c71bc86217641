import java.util.function.Supplier;

/**
 * What the promises 1 to 26 and the section "Heat, refreshing" of ../shared/DOC.md answer at the ends: nothing there,
 * all there, the first and the last one, and each step of a bound. Refused calls are in RefusedTest.
 */
public final class BoundsTest {
    private static final String BUSY_TEXT = "heat:9;p";

    public static void main(String[] args) {
        blowThatLocks();
        entriesOfAllRows();
        keysOfAllRows();
        locksOfAllRows();
        refreshOfAllFuses();
        refreshedFuses();
        degreesOfHeat();
        heatOfAllFuses();
        ticks();
        greatestValues();
        steadyReadings();
        histories();
        histories20();
        doubtfulCounts();
        putOutcomes();
        putOutcomesOfMarks();
        heatOutcomes();
        heatOutcomesOfKeys();
        readOutcomes();
        readOutcomesOfAll();
        worstRows();
        worstOfWhichRows();
        shares();
        digests();
        digestsOfScenes();
        looksChangeNothing();
        Check.end();
    }

    // ---- fuses, rows

    private static void blowThatLocks() {
        for (int row : new int[] {0, 19}) {
            for (int charge = 1; charge <= 3; charge++) {
                FuseRows x = new FuseRows();
                Check.due("2: the lock, charge " + charge, x.blow(row, 15, charge), charge);
                if (charge == 1) {
                    Check.due("2: a weak lock does not lock", x.blow(row, 15, 1), 1);
                    continue;
                }
                int with = charge;
                Check.noState("2: the row is locked then", x, () -> x.blow(row, 15, with));
                Check.due("2: another row is open", x.blow(19 - row, 15, charge), charge);
            }
        }
    }

    /** 20 entries with one key. */
    private static void entriesOfAllRows() {
        FuseRows x = new FuseRows();
        Check.due("4: no entry", x.drop(15), 0);
        x.set(3, 0);
        for (int n = 0; n < 20; n++) {
            Check.due("19: the row for the next value", x.count(10), n);
            Check.due("3: put into the row " + n, x.put(15, n), 1);
            Check.due("17: the row that tells it", x.key(15, 1), n);
            Check.due("17: entries", x.key(15, 2), n + 1);
            Check.due("17: rows", x.key(15, 3), n + 1);
            Check.due("19: entries", x.count(5), n + 1);
            Check.due("19: free rows", x.count(1), 19 - n);
            Check.due("19: values put", x.count(11), n + 1);
        }
        Check.due("19: keys with a value", x.count(9), 1);
        x.lock(0);
        x.lock(19);
        Check.due("4: all entries that are not locked", x.drop(15), 18);
        Check.due("19: overruled rows", x.count(3), 18);
        Check.due("17: the greatest row that is left", x.key(15, 0) * 100 + x.key(15, 1), 1919);
        x.undo();
        x.undo();
        x.undo();
        Check.due("4: all entries", x.drop(15), 20);
        Check.due("19: all rows are overruled", x.count(3), 20);
        Check.due("17: no entry, 20 rows", x.key(15, 2) * 100 + x.key(15, 3), 20);
        Check.due("17: no value, no row", x.key(15, 0) + x.key(15, 1), -2);
        Check.due("19: no key has a value", x.count(9), 0);
        Check.due("4: no entry any more", x.drop(15), 0);
    }

    private static void keysOfAllRows() {
        FuseRows x = new FuseRows();
        for (int key = 0; key < 16; key++) {
            Check.due("19: keys with a value", x.count(9), key);
            x.put(key, 63 - key);
        }
        Check.due("19: all keys have one", x.count(9), 16);
        for (int key = 0; key < 16; key++) {
            Check.due("17: each its own", x.key(key, 0) * 100 + x.key(key, 1), (63 - key) * 100 + key);
            Check.due("4: each its own", x.drop(key), 1);
            Check.due("19: keys with a value", x.count(9), 15 - key);
        }
    }

    private static void locksOfAllRows() {
        FuseRows x = new FuseRows();
        for (int row = 0; row < 20; row++) {
            Check.due("5: lock(" + row + ")", x.lock(row), row + 1);
            Check.due("19: locked rows", x.count(6), row + 1);
            Check.due("19: void rows", x.count(2), row + 1);
            Check.due("19: free rows", x.count(1), 19 - row);
            Check.due("19: the row for the next value", x.count(10), row == 19 ? -1 : row + 1);
        }
        Check.due("5: strength and energy", x.fuse(19, 15, 0) * 100 + x.count(8), 360);
        Check.due("7: a lock of 3 stays", x.heat(9) * 100 + x.count(6), 20);
    }

    // ---- Heat, refreshing

    private static void refreshOfAllFuses() {
        for (int row : new int[] {0, 19}) {
            Check.due("6: none", new FuseRows().refresh(row), 0);
            FuseRows x = Rows.withRow(row, 0x7fff, 2);
            Check.due("6: all fuses but the lock", x.refresh(row), 15);
            Check.due("6: all have 3", x.row(row, 8), 45);
            Check.due("6: energy", x.count(8), 30 + 45);
            Check.due("6: none becomes stronger again", x.refresh(row), 0);
            Check.due("6: energy of those of 3, too", x.count(8), 30 + 45 + 45);
            x.undo();
            x.undo();
            x.lock(row);
            Check.noState("6: locked", x, () -> x.refresh(row));
            FuseRows weak = Rows.withRow(row, 0xffff, 1);
            Check.due("6: fuses of 1 read 0 thrice", weak.refresh(row), 0);
            Check.due("6: they stay", weak.row(row, 8) * 100 + weak.count(8), 1616);
        }
    }

    /** "all its fuses that read 1, read thrice, are blown with the charge 3 (those with the strength 3, too)" */
    private static void refreshedFuses() {
        int[] stronger = {0, 0, 1, 0};
        int[] then = {0, 1, 3, 3};
        int[] energy = {0, 0, 3, 3};
        for (int reading = 0; reading <= 1; reading++) {
            for (int tick = 0; tick < 3; tick++) {
                for (int strength = 0; strength <= 3; strength++) {
                    FuseRows x = new FuseRows();
                    x.set(0, reading);
                    Rows.passTo(x, tick);
                    if (strength > 0) {
                        x.blow(19, 14, strength);
                        x.blow(18, 14, strength);
                    }
                    Check.due("6: refresh of " + strength, x.refresh(19), stronger[strength]);
                    Check.due("6: the strength then", x.fuse(19, 14, 0), then[strength]);
                    Check.due("6: another row stays", x.fuse(18, 14, 0), strength);
                    Check.due("6: energy", x.count(8), 2 * strength + energy[strength]);
                }
            }
        }
    }

    /** "1 becomes 0, if the degrees are at least 3; 2 becomes 1, if they are at least 6 (by its strength ahead)" */
    private static void degreesOfHeat() {
        int[][] then = {{0, 1, 2, 3}, {0, 1, 2, 3}, {0, 0, 2, 3}, {0, 0, 2, 3}, {0, 0, 2, 3}, {0, 0, 1, 3},
            {0, 0, 1, 3}, {0, 0, 1, 3}, {0, 0, 1, 3}};
        for (int degrees = 1; degrees <= 9; degrees++) {
            for (int strength = 0; strength <= 3; strength++) {
                FuseRows x = new FuseRows();
                if (strength > 0) {
                    x.blow(0, 0, strength);
                    x.blow(19, 15, strength);
                }
                int due = then[degrees - 1][strength];
                int weaker = due < strength ? 2 : 0;
                String at = degrees + " degrees on the strength " + strength;
                Check.due("22: " + at, x.ifHeated(degrees, 0), weaker);
                Check.due("7: " + at, x.heat(degrees), weaker);
                Check.due("7: the first fuse, " + at, x.fuse(0, 0, 0), due);
                Check.due("7: the last fuse, " + at, x.fuse(19, 15, 0), due);
                Check.due("7: no energy", x.count(8), 2 * strength);
                Check.due("7: no further fuse", x.row(0, 8) + x.row(19, 8) + x.row(7, 8), 2 * due);
            }
        }
    }

    private static void heatOfAllFuses() {
        int[][] due = {{0, 0, 0}, {0, 0, 0}, {320, 0, 0}, {320, 0, 0}, {320, 0, 0}, {320, 320, 0}, {320, 320, 0},
            {320, 320, 0}, {320, 320, 0}};
        for (int strength = 1; strength <= 3; strength++) {
            FuseRows x = Rows.all(strength);
            for (int degrees = 1; degrees <= 9; degrees++) {
                int weaker = due[degrees - 1][strength - 1];
                Check.due("22: all of " + strength, x.ifHeated(degrees, 0), weaker);
                Check.due("7: all of " + strength, x.heat(degrees), weaker);
                Check.due("7: what is left", x.row(19, 8), 16 * (strength - weaker / 320));
                Check.due("7: locked rows", x.count(6), strength - weaker / 320 >= 2 ? 20 : 0);
                x.undo();
            }
        }
    }

    // ---- ticks

    private static void ticks() {
        for (int ticks = 1; ticks <= 99; ticks++) {
            FuseRows x = new FuseRows();
            Check.due("8: pass(" + ticks + ")", x.pass(ticks), ticks);
            Check.due("19: the tick", x.count(0), ticks);
        }
        FuseRows x = new FuseRows();
        Rows.passTo(x, 9900);
        Check.due("8: 99 are just left", x.pass(99), 9999);
        Check.noState("8: the tick would be 10000", x, () -> x.pass(1));
        Check.noState("8: the tick would be 10098", x, () -> x.pass(99));
        x.undo();
        Check.due("8: 9901", x.pass(1), 9901);
        Check.noState("8: 99 are 1 too many", x, () -> x.pass(99));
        Check.due("8: 98 are just left", x.pass(98), 9999);
        x.set(0, 0);
        x.blow(0, 0, 1);
        x.blow(0, 1, 2);
        x.blow(0, 2, 3);
        x.blow(0, 3, 2);
        // 9999 leaves the rest 0, so that the fuses 0 to 3 have the rests 0, 1, 2, 0
        Check.due("16: the row 0 at the last tick", x.row(0, 0), 15);
        x.blow(19, 0, 1);
        x.blow(19, 1, 2);
        // 9999 + 19 leaves the rest 1
        Check.due("16: the row 19 at the last tick", x.row(19, 0), 0);
        Check.due("15: thrice, at the ticks 9999, 10000 and 10001", x.fuse(19, 0, 2) * 10 + x.fuse(19, 1, 2), 1);
    }

    // ---- keys

    private static void greatestValues() {
        FuseRows x = new FuseRows();
        Check.due("17: no row", x.key(8, 4), -1);
        x.put(8, 0);
        Check.due("17: the value 0", x.key(8, 4), 0);
        x.put(8, 63);
        Check.due("17: the value 63", x.key(8, 4), 63);
        x.put(8, 62);
        Check.due("17: that of an overruled row", x.key(8, 4) * 100 + x.key(8, 0), 6362);
        x.blow(1, 0, 3);
        x.undo();
        x.drop(8);
        Check.due("17: all are overruled", x.key(8, 4), 63);
        Check.due("17: another key", x.key(9, 4), -1);
    }

    /** "in how many of the next three readings it has the value that it has with each row read thrice, or no value" */
    private static void steadyReadings() {
        // value 1 of the key 0: the fuses 4, 10, 13, of one rest in the row 0; of 2: 5, 10, 13; of 63: all rests
        int[][] rows = {{0, 1, 2, 2}, {0, 2, 2, 1}, {0, 63, 2, 0}, {0, 1, 3, 3}, {0, 63, 3, 3}, {0, 1, 1, 2},
            {0, 2, 1, 3}, {0, 63, 1, 3}};
        for (int[] row : rows) {
            for (int tick = 0; tick < 4; tick++) {
                for (int reading = 0; reading <= 1; reading++) {
                    FuseRows x = new FuseRows();
                    x.set(1, row[2]);
                    x.put(row[0], row[1]);
                    x.set(0, reading);
                    Rows.passTo(x, tick);
                    Check.due("17: the value " + row[1] + " of " + row[2] + " at the tick " + tick, x.key(row[0], 5),
                            row[3]);
                }
            }
        }
        FuseRows x = new FuseRows();
        Check.due("17: no value", x.key(15, 5), 3);
        x.set(1, 2);
        x.put(0, 1);
        Rows.passTo(x, 9999);
        Check.due("17: at the ticks 9999, 10000 and 10001", x.key(0, 5), 2);
    }

    private static void histories() {
        FuseRows x = new FuseRows();
        Check.due("18: no row", x.history(0, 0), -1);
        Check.due("18: none, far back", x.history(0, Integer.MAX_VALUE), -1);
        x.put(0, 0);
        Check.due("18: the value 0", x.history(0, 0), 0);
        Check.due("18: one row", x.history(0, 1), -1);
        Check.due("18: of another key", x.history(15, 0), -1);
    }

    private static void histories20() {
        FuseRows x = new FuseRows();
        for (int n = 0; n < 20; n++) {
            x.put(15, 3 * n);
        }
        for (int back = 0; back < 25; back++) {
            Check.due("18: back " + back, x.history(15, back), back < 20 ? 3 * (19 - back) : -1);
        }
        Check.due("18: far back", x.history(15, Integer.MAX_VALUE), -1);
        Check.due("17: one entry, 20 rows", x.key(15, 2) * 100 + x.key(15, 3), 120);
    }

    private static void doubtfulCounts() {
        Check.due("19: no doubtful fuse", new FuseRows().count(7), 0);
        Check.due("19: all of 1", Rows.all(1).count(7), 320);
        Check.due("19: all of 2", Rows.all(2).count(7), 320);
        Check.due("19: all of 3", Rows.all(3).count(7), 0);
        Check.due("19: energy of all", Rows.all(3).count(8), 960);
        Check.due("19: all are locked", Rows.all(2).count(6), 20);
        Check.due("19: none is locked", Rows.all(1).count(6), 0);
    }

    // ---- outcomes

    private static void putOutcomes() {
        FuseRows x = new FuseRows();
        for (int key = 0; key < 16; key += 15) {
            for (int value = 0; value < 64; value += 63) {
                int[] due = {1, 4, 3 * Rows.size(key, value), value, 0};
                outcome(x, key, value, due);
            }
        }
        Check.due("21: nothing is saved", x.count(12), 0);
        FuseRows last = Rows.withRow(18, 1, 3);
        outcome(last, 15, 0, 1, 4, 3 * Rows.size(15, 0), 0, 0);
        last.put(15, 0);
        outcome(last, 15, 0, -1, -1, -1, -1, -1);
        FuseRows locked = new FuseRows();
        locked.blow(0, 15, 2);
        // thrice, the row 0 is void; once, it is so at the tick 0, and free at the tick 2
        outcome(locked, 15, 0, 1, 4, 3 * Rows.size(15, 0), 0, 0);
        locked.set(0, 0);
        outcome(locked, 15, 0, 1, 4, 3 * Rows.size(15, 0), 0, 0);
        locked.pass(2);
        outcome(locked, 15, 0, -1, -1, -1, -1, -1);
        FuseRows once = new FuseRows();
        once.set(0, 0);
        once.set(1, 1);
        // the fuses of 0 and 1 (4, 10, 13) have the rest 1 at the tick 0, 2 at the tick 1, 0 at the tick 2
        outcome(once, 0, 1, 1, 0, 3, -1, 0);
        once.pass(2);
        outcome(once, 0, 1, 1, 4, 3, 1, 0);
        outcome(once, 0, 2, 1, 3, 3, -1, 0);
    }

    private static void outcome(FuseRows x, int key, int value, int... due) {
        for (int what = 0; what < 5; what++) {
            Check.due("21: ifPut(" + key + ", " + value + ", " + what + ")", x.ifPut(key, value, what), due[what]);
        }
    }

    private static void putOutcomesOfMarks() {
        FuseRows x = new FuseRows();
        x.set(3, 0);
        for (int n = 0; n < 19; n++) {
            Check.due("21: no marks", x.ifPut(7, n, 4), 0);
            x.put(7, n);
        }
        x.set(3, 1);
        int size = Rows.size(7, 63);
        outcome(x, 7, 63, 1, 4, 3 * (size + 19), 63, 19);
        outcome(x, 8, 63, 1, 4, 3 * Rows.size(8, 63), 63, 0);
        x.lock(0);
        x.lock(18);
        outcome(x, 7, 63, 1, 4, 3 * (size + 17), 63, 17);
        x.set(1, 1);
        outcome(x, 7, 63, 1, 0, size + 17, 18, 17);
        x.set(2, 2);
        outcome(x, 7, 63, 2, 4, size + 2 * size + 17, 63, 17);
        int energy = x.count(8);
        Check.due("21: as put() does", x.put(7, 63), 2);
        Check.due("21: its energy", x.count(8) - energy, 3 * size + 17);
        outcome(x, 7, 0, -1, -1, -1, -1, -1);
    }

    private static void heatOutcomes() {
        FuseRows x = new FuseRows();
        heated(x, 9, 0, 0, 0);
        x.blow(0, 14, 2);
        x.blow(19, 15, 2);
        heated(x, 5, 0, 0, 0);
        // two void rows become free ones
        heated(x, 6, 2, 2, 0);
        x.blow(1, 14, 1);
        heated(x, 2, 0, 0, 0);
        heated(x, 3, 1, 0, 0);
        FuseRows all = Rows.all(2);
        heated(all, 5, 0, 0, 0);
        heated(all, 6, 320, 20, 0);
        FuseRows weak = Rows.all(1);
        heated(weak, 2, 0, 0, 0);
        heated(weak, 3, 320, 0, 0);
        weak.set(0, 0);
        // read once, each row has some fuses that read 1
        heated(weak, 3, 320, 20, 0);
    }

    private static void heated(FuseRows x, int degrees, int... due) {
        for (int what = 0; what < 3; what++) {
            Check.due("22: ifHeated(" + degrees + ", " + what + ")", x.ifHeated(degrees, what), due[what]);
        }
    }

    private static void heatOutcomesOfKeys() {
        FuseRows x = new FuseRows();
        x.set(1, 2);
        x.set(3, 0);
        int fuses = 0;
        for (int n = 0; n < 20; n++) {
            x.put(n % 16, 63);
            fuses += Rows.size(n % 16, 63);
        }
        heated(x, 5, 0, 0, 0);
        heated(x, 6, fuses, 20, 16);
        FuseRows other = new FuseRows();
        other.put(1, 5);
        other.put(2, 6);
        other.put(3, 7);
        other.blow(1, 14, 2);
        other.set(1, 2);
        other.put(3, 8);
        other.put(1, 5);
        // heat: 1 keeps 5, told by the row 0; 2 gets 6; 3 has 7 for 8
        heated(other, 5, 0, 0, 0);
        heated(other, 6, 1 + Rows.size(3, 8) + Rows.size(1, 5) + 2, 5, 2);
    }

    private static void readOutcomes() {
        FuseRows x = new FuseRows();
        Check.due("23: no key", x.ifRead(0, true) + x.ifRead(99, false), 0);
        x.set(1, 2);
        x.put(0, 1);
        // the fuses of 0 and 1 (4, 10, 13) have the rest 2 at the ticks 1, 4, 7 ..
        for (int ticks = 0; ticks <= 99; ticks++) {
            Check.due("23: once, later by " + ticks, x.ifRead(ticks, false), ticks % 3 == 1 ? 1 : 0);
            Check.due("23: thrice, later by " + ticks, x.ifRead(ticks, true), 0);
        }
        x.set(0, 0);
        x.pass(1);
        Check.due("23: one where it has none", x.ifRead(1, false), 1);
        Check.due("23: one where it has none, thrice", x.ifRead(0, true), 1);
        Check.due("23: none then and none now", x.ifRead(3, false) + x.ifRead(99, false), 0);
        FuseRows other = new FuseRows();
        other.put(0, 5);
        other.set(3, 0);
        other.set(1, 2);
        other.blow(1, 15, 1);
        other.put(0, 1);
        // the same fuses in the row 1 have the rest 2 at the ticks 0, 3, 6 ..
        Check.due("23: another value", other.ifRead(0, false), 1);
        Check.due("23: the same value", other.ifRead(1, false), 0);
        Rows.passTo(other, 9999);
        Check.due("23: another value, at the tick 9999", other.ifRead(0, false), 1);
        Check.due("23: the same value, at the tick 10000", other.ifRead(1, false), 0);
        Check.due("23: another value, at the tick 10098", other.ifRead(99, false), 1);
    }

    private static void readOutcomesOfAll() {
        FuseRows x = new FuseRows();
        x.set(1, 2);
        for (int key = 0; key < 16; key++) {
            x.put(key, 63);
            Check.due("23: all keys so far", x.ifRead(key, false), key + 1);
            Check.due("17: no reading is steady", x.key(key, 5), 0);
        }
        Check.due("23: none, read thrice", x.ifRead(99, true), 0);
        x.set(0, 0);
        Check.due("23: all, read thrice", x.ifRead(99, true), 16);
        Check.due("23: none has a value, read once", x.ifRead(99, false), 0);
    }

    // ---- worst, sureShare, digest

    private static void worstRows() {
        for (int row = 0; row < 20; row++) {
            FuseRows x = Rows.withRow(row, Rows.wanted(9, 9), 3);
            Check.due("24: no doubtful fuse", x.worst(), -1);
            x.blow(row, 14, 1);
            Check.due("24: one", x.worst(), row);
            Rows.blow(x, 19 - row, Rows.wanted(9, 9), 3);
            x.blow(19 - row, 14, 1);
            Check.due("24: of two the lowest", x.worst(), Math.min(row, 19 - row));
            x.blow(row, 9, 1);
            Check.due("24: the one with one more", x.worst(), row);
        }
    }

    private static void worstOfWhichRows() {
        int entry = Rows.wanted(9, 9);
        int[][] rows = {{0, -1}, {1 << 14, -1}, {entry + (1 << 14), -1}, {entry + 1024, -1}, {entry, 3},
            {entry + (1 << 15), -1}, {1 << 15, -1}};
        for (int[] row : rows) {
            FuseRows x = Rows.withRow(3, row[0], 2);
            Check.due("24: the row " + row[0], x.worst(), row[1]);
        }
        FuseRows x = Rows.withRow(3, entry, 2);
        x.blow(3, 15, 1);
        Check.due("24: a weak lock does not matter", x.worst(), 3);
        x.set(0, 0);
        // 9, 9 has all rests
        Check.due("24: read once, it is no entry", x.worst(), -1);
        Rows.blow(x, 3, entry, 3);
        Check.due("24: an entry with a doubtful lock", x.worst(), 3);
        x.pass(2);
        // 2 + 3 + 15 leaves the rest 2
        Check.due("24: read once, the lock reads 0", x.worst(), 3);
        x.blow(3, 15, 2);
        Check.due("24: locked, though the lock reads 0", x.worst(), -1);
    }

    private static void shares() {
        Check.due("25: none", new FuseRows().sureShare(), 1.0);
        Check.due("25: all of 1", Rows.all(1).sureShare(), 0.0);
        Check.due("25: all of 2", Rows.all(2).sureShare(), 0.0);
        Check.due("25: all of 3", Rows.all(3).sureShare(), 1.0);
        FuseRows x = Rows.all(1);
        for (int n = 1; n <= 150; n++) {
            x.blow((n - 1) / 15, (n - 1) % 15, 3);
            if (n % 10 == 0 || n == 1) {
                Check.due("25: of 320", x.sureShare(), n / 320.0);
            }
        }
        x.heat(3);
        Check.due("25: the others have healed", x.sureShare(), 1.0);
    }

    /** The first number is that of an empty object, with the values of the list counted by hand. */
    private static void digests() {
        long hash = 2683;
        int[] counts = {0, 20, 0, 0, 0, 0, 0, 0, 0, 0, 0, 0, 0, 1, 3, 1, 1};
        for (int value : counts) {
            hash = 31 * hash + value;
        }
        for (int row = 0; row < 20; row++) {
            for (int value = 0; value < 25; value++) {
                hash = 31 * hash + (value == 5 ? 10 : 0);
            }
        }
        int[] ofKey = {-1, -1, 0, 0, -1, 3, -1, -1};
        for (int key = 0; key < 16; key++) {
            for (int value : ofKey) {
                hash = 31 * hash + value;
            }
        }
        // ifPut(3, 5, ..): the fuses 0, 1, 4, 6 and the check 6; ifHeated; ifRead; worst; the bits of 1.0; the length
        long[] end = {1, 4, 18, 5, 0, 0, 0, 0, 0, 0, -1, 0x3ff0000000000000L, 0};
        for (long value : end) {
            hash = 31 * hash + value;
        }
        FuseRows x = new FuseRows();
        Check.due("26: an empty object", x.digest(), hash);
        x.append('~');
        Check.due("26: a text of one", x.digest(), 31 * (hash + 1) + 126);
        x.append('!');
        Check.due("26: a text of two", x.digest(), 31 * (31 * (hash + 2) + 126) + 33);
        x.clearBuffer();
        Check.due("26: no text", x.digest(), hash);
    }

    private static void digestsOfScenes() {
        digestOf("an empty object", "", FuseRows::new);
        digestOf("an open object", Rows.OPEN_TEXT, Rows::open);
        digestOf("a closed object", Rows.CLOSED_TEXT, Rows::closed);
        digestOf("a busy object", BUSY_TEXT, BoundsTest::busy);
        for (int charge = 1; charge <= 3; charge++) {
            int of = charge;
            digestOf("all fuses of " + charge, "", () -> Rows.all(of));
        }
        digestOf("values of 2, read thrice", "", () -> valuesOf2(1));
        digestOf("values of 2, read once", "", () -> valuesOf2(0));
        digestOf("a value that reads wrong at the next tick alone", "", BoundsTest::wrongAtTick1);
    }

    private static void digestOf(String what, String text, Supplier<FuseRows> scene) {
        long hash = 31 * listed(scene) + text.length();
        for (char sign : text.toCharArray()) {
            hash = 31 * hash + sign;
        }
        Check.due("26: " + what, scene.get().digest(), hash);
    }

    /** Values that read wrong once in three ticks, with the key 3 among them. */
    private static FuseRows valuesOf2(int reading) {
        FuseRows x = new FuseRows();
        x.set(1, 2);
        x.put(3, 4);
        x.put(0, 1);
        x.set(3, 0);
        x.put(0, 1);
        x.blow(0, 9, 1);
        x.set(0, reading);
        return x;
    }

    /** The fuses of 0 and 1 (4, 10, 13) have the rest 1 at the tick 0, 2 at the tick 1, 0 at the tick 2. */
    private static FuseRows wrongAtTick1() {
        FuseRows x = new FuseRows();
        x.set(1, 2);
        x.put(0, 1);
        return x;
    }

    /** The hash by the list of the document, up to the text; more than 512 calls, so each part has its own object. */
    private static long listed(Supplier<FuseRows> scene) {
        FuseRows first = scene.get();
        long hash = 2683;
        for (int what = 0; what <= 12; what++) {
            hash = 31 * hash + first.count(what);
        }
        for (int setting = 0; setting <= 3; setting++) {
            hash = 31 * hash + first.setting(setting);
        }
        for (int row = 0; row < 20; row++) {
            FuseRows x = scene.get();
            for (int what = 0; what <= 8; what++) {
                hash = 31 * hash + x.row(row, what);
            }
            for (int fuse = 0; fuse < 16; fuse++) {
                hash = 31 * hash + x.fuse(row, fuse, 0);
            }
        }
        for (int key = 0; key < 16; key++) {
            FuseRows x = scene.get();
            for (int what = 0; what <= 5; what++) {
                hash = 31 * hash + x.key(key, what);
            }
            hash = 31 * (31 * hash + x.history(key, 0)) + x.history(key, 1);
        }
        for (int what = 0; what <= 4; what++) {
            hash = 31 * hash + first.ifPut(3, 5, what);
        }
        for (int what = 0; what <= 2; what++) {
            hash = 31 * hash + first.ifHeated(6, what);
        }
        hash = 31 * (31 * hash + first.ifRead(1, false)) + first.ifRead(1, true);
        hash = 31 * (31 * hash + first.worst()) + Double.doubleToLongBits(first.sureShare());
        return hash;
    }

    /** "looks; nothing is changed", "what would be; nothing is changed": also nothing of the saved states. */
    private static void looksChangeNothing() {
        FuseRows x = busy();
        for (int what = 0; what < 13; what++) {
            x.count(what);
        }
        for (int what = 0; what < 9; what++) {
            x.row(what, what);
            x.fuse(what, what, what % 3);
            x.key(what, what % 6);
            x.history(what, what);
            x.setting(what % 4);
            x.ifPut(what % 3, what, what % 5);
            x.ifHeated(what + 1, what % 3);
            x.ifRead(11 * what, what % 2 == 0);
        }
        x.worst();
        x.sureShare();
        x.digest();
        x.firstError();
        Rows.same("looks", x, busy());
    }

    private static FuseRows busy() {
        FuseRows x = new FuseRows();
        x.set(1, 2);
        x.put(1, 9);
        x.put(2, 10);
        x.put(1, 11);
        x.lock(1);
        x.blow(7, 7, 1);
        x.pass(1);
        x.set(0, 0);
        Check.type(x, BUSY_TEXT);
        return x;
    }
}
