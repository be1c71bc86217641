/**
 * How and when each look and each change reads its rows: once or thrice as setting 0 tells, at this tick, and locks
 * thrice whatever setting 0 is. A row r reads once by its phase, the rest of tick plus r by 3. A fuse f of the strength
 * 1 is 1 only where the rest of phase plus f is 0, one of 2 is 0 only where it is 2; read thrice, 1 is 0 and 2 is 1.
 */
public final class ReadingsTest {
    /** Key 1; read thrice the value 1, once the value 2 at the phase 1, else 1; always an entry. */
    private static final int[] VALUE_GROWS = {0, 3, 4, 2, 5, 1, 13, 3};
    /** Key 1; read thrice the value 4, once the value 1 at the phase 2, else 4; always an entry. */
    private static final int[] VALUE_SHRINKS = {0, 3, 4, 1, 6, 2, 13, 3};
    /** Value 1; read thrice the key 1, once the key 2 at the phase 2, else 1; always an entry. */
    private static final int[] KEY_CHANGES = {0, 2, 1, 1, 4, 3, 13, 3};
    /** Key 1, value 1 at the phase 2 alone; else, and read thrice, the check is not right. */
    private static final int[] ONCE_AN_ENTRY = {0, 3, 4, 1, 13, 3};
    /** Key 1, value 1; at the phase 1 the check is not right, else, and read thrice, it is an entry. */
    private static final int[] ONCE_WRONG = {0, 3, 4, 3, 5, 1, 13, 3};

    public static void main(String[] args) {
        for (int row = 0; row < 18; row++) {
            for (int more = 0; more < 2; more++) {
                valueGrows(row, more);
                valueShrinks(row, more);
                keyChanges(row, more);
                marks(row, more);
                keysWithValue(row, more);
                tellsOnce(row, more);
                wrongOnce(row, more);
            }
            locksInRuns(row);
            locksOfEntries(row);
        }
        Check.end();
    }

    /** A row with these fuses (number, strength, and so on), at the tick that gives it the phase. */
    private static FuseRows made(int row, int[] fuses, int reading, int phase, int more) {
        FuseRows rows = new FuseRows();
        for (int i = 0; i < fuses.length; i += 2) {
            rows.blow(row, fuses[i], fuses[i + 1]);
        }
        rows.set(0, reading);
        Rows.passTo(rows, (phase + 2 * row) % 3 + 3 * more);
        return rows;
    }

    private static void key(FuseRows rows, String where, int key, int... due) {
        for (int what = 0; what < 5; what++) {
            Check.due("17: key(" + key + ", " + what + ") " + where, rows.key(key, what), due[what]);
        }
        Check.due("18: history(" + key + ", 0) " + where, rows.history(key, 0), due[5]);
        Check.due("18: history(" + key + ", 1) " + where, rows.history(key, 1), FuseRows.NONE);
    }

    private static void heated(FuseRows rows, String where, int degrees, int... due) {
        for (int what = 0; what < 3; what++) {
            Check.due("22: ifHeated(" + degrees + ", " + what + ") " + where, rows.ifHeated(degrees, what), due[what]);
        }
    }

    private static void read(FuseRows rows, String where, int thrice, int... due) {
        for (int ticks = 0; ticks < due.length; ticks++) {
            Check.due("23: ifRead(" + ticks + ", false) " + where, rows.ifRead(ticks, false), due[ticks]);
            Check.due("23: ifRead(" + ticks + ", true) " + where, rows.ifRead(ticks, true), thrice);
        }
    }

    private static void valueGrows(int row, int more) {
        String where = "of a value that grows, row " + row + ", " + more;
        for (int phase = 0; phase < 3; phase++) {
            for (int reading = 0; reading < 2; reading++) {
                FuseRows rows = made(row, VALUE_GROWS, reading, phase, more);
                boolean grown = reading == 0 && phase == 1;
                int value = grown ? 2 : 1;
                String now = where + ", phase " + phase + ", reading " + reading;
                Check.due("16: the mask " + now, rows.row(row, 0), 1 + 16 * value + 8192);
                Check.due("16: the value " + now, rows.row(row, 3), value);
                key(rows, now, 1, value, row, 1, 1, value, value);
                Check.due("17: steady " + now, rows.key(1, 5), 2);
                heated(rows, now, 1, 0, 0, 0);
                heated(rows, now, 3, 1, grown ? 1 : 0, grown ? 1 : 0);
                Check.due("24: worst " + now, rows.worst(), row);
                rows.blow(row, 14, 3);
                key(rows, now + ", overruled", 1, -1, -1, 0, 1, value, value);
            }
        }
        read(made(row, VALUE_GROWS, 0, 1, more), where, 1, 0, 1, 1, 0);
        read(made(row, VALUE_GROWS, 0, 0, more), where, 0, 0, 1, 0, 0);
        read(made(row, VALUE_GROWS, 1, 0, more), where, 0, 0, 1, 0, 0);
        read(made(row, VALUE_GROWS, 1, 1, more), where, 0, 1, 0, 0, 1);
    }

    private static void valueShrinks(int row, int more) {
        for (int phase = 0; phase < 3; phase++) {
            for (int reading = 0; reading < 2; reading++) {
                FuseRows rows = made(row, VALUE_SHRINKS, reading, phase, more);
                int value = reading == 0 && phase == 2 ? 1 : 4;
                String now = "of a value that shrinks, row " + row + ", phase " + phase + ", reading " + reading;
                key(rows, now, 1, value, row, 1, 1, value, value);
                heated(rows, now, 2, 0, 0, 0);
                rows.blow(row, 14, 3);
                key(rows, now + ", overruled", 1, -1, -1, 0, 1, value, value);
            }
        }
    }

    private static void keyChanges(int row, int more) {
        for (int phase = 0; phase < 3; phase++) {
            for (int reading = 0; reading < 2; reading++) {
                FuseRows rows = made(row, KEY_CHANGES, reading, phase, more);
                int key = reading == 0 && phase == 2 ? 2 : 1;
                String now = "of a key that changes, row " + row + ", phase " + phase + ", reading " + reading;
                key(rows, now, key, 1, row, 1, 1, 1, 1);
                key(rows, now, 3 - key, -1, -1, 0, 0, -1, -1);
                heated(rows, now, 2, 0, 0, 0);
                Check.due("23: once " + now, rows.ifRead(0, false), key == 1 && phase == 2 ? 2 : 0);
                Check.due("23: thrice " + now, rows.ifRead(0, true), key == 1 ? 0 : 2);
            }
        }
    }

    /** The key 1 or 2 and the value 9 have to be 1 in six fuses. */
    private static void marks(int row, int more) {
        for (int phase = 0; phase < 3; phase++) {
            for (int reading = 0; reading < 2; reading++) {
                int key = reading == 0 && phase == 2 ? 2 : 1;
                String now = ", row " + row + ", phase " + phase + ", reading " + reading;
                for (int asked = 1; asked < 3; asked++) {
                    int due = asked == key ? 1 : 0;
                    FuseRows rows = made(row, KEY_CHANGES, reading, phase, more);
                    int energy = rows.count(8);
                    Check.due("21: marks" + now, rows.ifPut(asked, 9, 4), due);
                    Check.due("21: energy" + now, rows.ifPut(asked, 9, 2), 18 + 3 * due);
                    Check.due("21: value" + now, rows.ifPut(asked, 9, 3), 9);
                    rows.put(asked, 9);
                    Check.due("3: the mark" + now, rows.fuse(row, 14, 0), 3 * due);
                    Check.due("3: energy" + now, rows.count(8), energy + 18 + 3 * due);
                    rows.undo();
                    Check.due("4: drop" + now, rows.drop(asked), due);
                    Check.due("4: the mark" + now, rows.fuse(row, 14, 0), 3 * due);
                    Check.due("4: energy" + now, rows.count(8), energy + 3 * due);
                }
            }
        }
    }

    private static void keysWithValue(int row, int more) {
        for (int phase = 0; phase < 3; phase++) {
            for (int reading = 0; reading < 2; reading++) {
                String now = ", row " + row + ", phase " + phase + ", reading " + reading;
                Check.due("19: keys of one once" + now, made(row, ONCE_AN_ENTRY, reading, phase, more).count(9),
                        reading == 0 && phase == 2 ? 1 : 0);
                Check.due("19: keys of one but once" + now, made(row, ONCE_WRONG, reading, phase, more).count(9),
                        reading == 0 && phase == 1 ? 0 : 1);
            }
        }
    }

    private static void tellsOnce(int row, int more) {
        for (int phase = 0; phase < 3; phase++) {
            for (int reading = 0; reading < 2; reading++) {
                FuseRows rows = made(row, ONCE_AN_ENTRY, reading, phase, more);
                // Read thrice there is no value, read once there is one in one of three readings.
                Check.due("17: steady, once an entry, row " + row, rows.key(1, 5), 2);
                tells(rows, "once an entry, ", row, phase, reading, reading == 0 && phase == 2);
            }
        }
    }

    private static void wrongOnce(int row, int more) {
        for (int phase = 0; phase < 3; phase++) {
            for (int reading = 0; reading < 2; reading++) {
                FuseRows rows = made(row, ONCE_WRONG, reading, phase, more);
                Check.due("17: steady, once wrong, row " + row, rows.key(1, 5), 2);
                tells(rows, "once wrong, ", row, phase, reading, reading == 1 || phase != 1);
            }
        }
    }

    private static void tells(FuseRows rows, String what, int row, int phase, int reading, boolean entry) {
        String now = what + "row " + row + ", phase " + phase + ", reading " + reading;
        Check.due("16: the kind, " + now, rows.row(row, 1), entry ? 4 : 3);
        Check.due("19: wrong rows, " + now, rows.count(4), entry ? 0 : 1);
        Check.due("19: entries, " + now, rows.count(5), entry ? 1 : 0);
        Check.due("24: worst, " + now, rows.worst(), entry ? row : FuseRows.NONE);
        Check.due("21: marks, " + now, rows.ifPut(1, 9, 4), entry ? 1 : 0);
        Check.due("21: value, " + now, rows.ifPut(2, 9, 3), 9);
        heated(rows, now, 2, 0, 0, 0);
        if (entry) {
            key(rows, now, 1, 1, row, 1, 1, 1, 1);
        } else {
            key(rows, now, 1, -1, -1, 0, 0, -1, -1);
        }
        Check.due("4: drop, " + now, rows.drop(1), entry ? 1 : 0);
    }

    /** Orders of run() look at locks as their methods do: thrice, so that the strength 1 is none and 2 is one. */
    private static void locksInRuns(int row) {
        for (int phase = 0; phase < 3; phase++) {
            for (int reading = 0; reading < 2; reading++) {
                for (int strength = 1; strength <= 3; strength++) {
                    String now = ", a lock of the strength " + strength + ", row " + row + ", phase " + phase;
                    int due = strength == 1 ? 1 : 0;
                    FuseRows rows = made(row, new int[] {2, 2, 15, strength}, reading, phase, 0);
                    Check.type(rows, "fix:" + row + ";heat:1");
                    Check.due("13: fix" + now, rows.run(), 2 * due);
                    Check.due("13: refreshed" + now, rows.fuse(row, 2, 0), 2 + due);
                    Check.type(rows, "lock:" + row + ";heat:1");
                    Check.due("13: lock" + now, rows.run(), 2 * due);
                    Check.due("13: locked" + now, rows.fuse(row, 15, 0), strength == 1 ? 3 : strength);
                }
            }
        }
    }

    /** Key 1, value 1: the mark of an entry whose lock has the strength 1 is blown, and not from the strength 2 on. */
    private static void locksOfEntries(int row) {
        for (int phase = 0; phase < 3; phase++) {
            for (int reading = 0; reading < 2; reading++) {
                for (int strength = 1; strength <= 3; strength++) {
                    String now = ", a lock of the strength " + strength + ", row " + row + ", phase " + phase;
                    int due = strength == 1 ? 1 : 0;
                    FuseRows rows = made(row, new int[] {0, 3, 4, 3, 13, 3, 15, strength}, reading, phase, 0);
                    Check.due("16: an entry" + now, rows.row(row, 1), 4);
                    Check.due("16: locked" + now, rows.row(row, 7), 1 - due);
                    Check.due("19: locked" + now, rows.count(6), 1 - due);
                    Check.due("24: worst" + now, rows.worst(), due == 1 ? row : FuseRows.NONE);
                    Check.due("21: marks" + now, rows.ifPut(1, 9, 4), due);
                    Check.due("3: put" + now, rows.put(1, 9), 1);
                    Check.due("3: the mark" + now, rows.fuse(row, 14, 0), 3 * due);
                    rows.undo();
                    Check.due("4: drop" + now, rows.drop(1), due);
                    Check.due("4: the mark" + now, rows.fuse(row, 14, 0), 3 * due);
                }
            }
        }
    }
}
