/**
 * The sentences under "Terms" of ../shared/DOC.md (Fuses; Rows, entries; Putting) that name a bound, on both sides
 * of it: each method begins with the sentence.
 */
public final class TermsTest {
    private static final int FREE = 0;
    private static final int VOID = 1;
    private static final int OVERRULED = 2;
    private static final int WRONG = 3;
    private static final int ENTRY = 4;

    public static void main(String[] args) {
        rowsAndFuses();
        strengths();
        readOnce();
        readThrice();
        doubtful();
        blows();
        energy();
        settingOfReading();
        numbersOfARow();
        checks();
        kinds();
        locks();
        lockedRows();
        valueOfAKey();
        rowsOfAKey();
        rowForAValue();
        lastRowForAValue();
        chargeOfTheFirstTry();
        furtherTries();
        onlyIfItReadsWrong();
        marks();
        marksOfSetting3();
        writtenWhateverItReads();
        Check.end();
    }

    // ---- Fuses

    /** "There are 20 rows, numbered from 0, of 16 fuses each, numbered from 0." */
    private static void rowsAndFuses() {
        FuseRows x = new FuseRows();
        for (int row = 0; row < 20; row++) {
            for (int fuse = 0; fuse < 16; fuse++) {
                Check.due("a fuse of its own", x.blow(row, fuse, 1), 1);
            }
            Check.due("all fuses of the row " + row, x.row(row, 8), 16);
            Check.due("all fuses so far", x.count(7), 16 * (row + 1));
        }
        Check.noIndex("no row -1", x, () -> x.blow(-1, 0, 1));
        Check.noIndex("no row 20", x, () -> x.blow(20, 0, 1));
        Check.noIndex("no fuse -1", x, () -> x.blow(0, -1, 1));
        Check.noIndex("no fuse 16", x, () -> x.blow(19, 16, 1));
    }

    /** "A fuse has a strength, 0 to 3, at first 0." "There is a tick, at first 0." */
    private static void strengths() {
        FuseRows x = new FuseRows();
        Check.due("the first tick", x.count(0), 0);
        Check.due("at first", x.fuse(3, 4, 0), 0);
        x.heat(9);
        Check.due("not below 0", x.fuse(3, 4, 0), 0);
        x.blow(3, 4, 3);
        x.blow(3, 4, 3);
        x.refresh(3);
        Check.due("not above 3", x.fuse(3, 4, 0), 3);
    }

    /** "Read once, a fuse is 1 if its strength is greater than the rest of tick plus row plus number by 3." */
    private static void readOnce() {
        for (int strength = 0; strength <= 3; strength++) {
            for (int row = 0; row < 20; row++) {
                FuseRows x = strength == 0 ? new FuseRows() : Rows.withRow(row, 0xffff, strength);
                for (int tick = 0; tick <= 4; tick++) {
                    int mask = 0;
                    for (int fuse = 0; fuse < 16; fuse++) {
                        int due = strength > (tick + row + fuse) % 3 ? 1 : 0;
                        Check.due("strength " + strength + ", row " + row + ", fuse " + fuse + ", tick " + tick,
                                x.fuse(row, fuse, 1), due);
                        mask += due << fuse;
                    }
                    x.set(0, 0);
                    Check.due("mask of the strength " + strength + ", tick " + tick, x.row(row, 0), mask);
                    x.pass(1);
                }
            }
        }
    }

    /** "Read thrice, it is what it is most often, read once at this tick and at the next two ones." */
    private static void readThrice() {
        int[] due = {0, 0, 1, 1};
        for (int tick : new int[] {0, 1, 2, 3, 9996, 9997, 9998, 9999}) {
            FuseRows x = new FuseRows();
            Rows.passTo(x, tick);
            for (int row = 17; row < 20; row++) {
                for (int strength = 0; strength <= 3; strength++) {
                    if (strength > 0) {
                        x.blow(row, 15, strength);
                    }
                    Check.due("strength " + strength + ", row " + row + ", tick " + tick, x.fuse(row, 15, 2),
                            due[strength]);
                    if (strength == 2) {
                        break;
                    }
                }
            }
            x.blow(0, 0, 3);
            Check.due("strength 3, tick " + tick, x.fuse(0, 0, 2), 1);
        }
    }

    /** "(So a strength of 0 reads 0, one of 3 reads 1, and those of 1 and 2 are doubtful.)" */
    private static void doubtful() {
        int[] due = {0, 1, 1, 0};
        FuseRows x = new FuseRows();
        for (int strength = 0; strength <= 3; strength++) {
            if (strength > 0) {
                x.blow(19, 0, strength);
            }
            Check.due("doubtful of the row, strength " + strength, x.row(19, 6), due[strength]);
            Check.due("doubtful of all, strength " + strength, x.count(7), due[strength]);
            for (int tick = 0; tick < 3; tick++) {
                if (strength == 0 || strength == 3) {
                    Check.due("sure at each tick", x.fuse(19, 0, 1), strength / 3);
                }
                x.pass(1);
            }
        }
    }

    /** "A blow with a charge, 1 to 3, makes the strength of a fuse the greater one of both." */
    private static void blows() {
        for (int strength = 0; strength <= 3; strength++) {
            for (int charge = 1; charge <= 3; charge++) {
                FuseRows x = new FuseRows();
                if (strength > 0) {
                    x.blow(9, 9, strength);
                }
                Check.due("charge " + charge + " on " + strength, x.blow(9, 9, charge), Math.max(strength, charge));
                Check.due("the strength then", x.fuse(9, 9, 0), Math.max(strength, charge));
                Check.due("energy of both", x.count(8), strength + charge);
            }
        }
    }

    /** "Energy is the sum of the charges of all blows so far." */
    private static void energy() {
        FuseRows x = new FuseRows();
        Check.due("at first", x.count(8), 0);
        x.blow(0, 0, 3);
        x.blow(0, 0, 1);
        Check.due("also of a blow that changes nothing", x.count(8), 4);
        x.heat(9);
        x.pass(9);
        x.set(1, 1);
        Check.due("not of heat, ticks and settings", x.count(8), 4);
        x.lock(0);
        Check.noState("no blow on a locked row", x, () -> x.blow(0, 0, 3));
        Check.due("not of a refused blow", x.count(8), 7);
        x.undo();
        Check.due("it goes back with undo", x.count(8), 4);
        FuseRows most = new FuseRows();
        for (int call = 0; call < 511; call++) {
            most.blow(call % 20, call % 15, 3);
        }
        Check.due("the 512th call", most.count(8), 511 * 3);
    }

    // ---- Rows, entries

    /** "A row is read once, if setting 0 is 0, or thrice, if it is 1." */
    private static void settingOfReading() {
        // the fuses 0 to 3 have the strengths 3, 2, 1 and 1; in the row 2 at the tick 0, the rests 2, 0, 1 and 2
        FuseRows x = new FuseRows();
        x.blow(2, 0, 3);
        x.blow(2, 1, 2);
        x.blow(2, 2, 1);
        x.blow(2, 3, 1);
        Check.due("thrice at first", x.row(2, 0), 3);
        x.set(0, 0);
        int[] once = {1 + 2, 1 + 2 + 8, 1 + 4};
        for (int tick = 0; tick < 6; tick++) {
            Check.due("once at the tick " + tick, x.row(2, 0), once[tick % 3]);
            x.set(0, 1);
            Check.due("thrice at the tick " + tick, x.row(2, 0), 3);
            x.set(0, 0);
            x.pass(1);
        }
    }

    /** "Its fuses 0 to 3 tell a key, 0 to 15, the fuses 4 to 9 a value, 0 to 63, and 10 to 13 a check, 0 to 15." */
    private static void numbersOfARow() {
        for (int fuse = 0; fuse < 16; fuse++) {
            for (int row : new int[] {0, 19}) {
                FuseRows x = Rows.withRow(row, 1 << fuse, 3);
                int[] due = {1 << fuse, fuse < 14 ? WRONG : VOID, fuse < 4 ? 1 << fuse : 0,
                    fuse >= 4 && fuse < 10 ? 1 << (fuse - 4) : 0, fuse >= 10 && fuse < 14 ? 1 << (fuse - 10) : 0,
                    fuse < 10 ? 9 : 10, 0, fuse == 15 ? 1 : 0, 3};
                properties("the fuse " + fuse + " alone", x, row, due);
            }
        }
        properties("none", new FuseRows(), 19, 0, FREE, 0, 0, 0, 10, 0, 0, 0);
        properties("all, sure", Rows.all(3), 19, 65535, OVERRULED, 15, 63, 15, 0, 0, 1, 48);
        properties("all of 2", Rows.all(2), 0, 65535, OVERRULED, 15, 63, 15, 0, 16, 1, 32);
        properties("all of 1", Rows.all(1), 0, 0, FREE, 0, 0, 0, 10, 16, 0, 16);
    }

    private static void properties(String when, FuseRows x, int row, int... due) {
        for (int what = 0; what < 9; what++) {
            Check.due(when + ": row(" + row + ", " + what + ")", x.row(row, what), due[what]);
        }
    }

    /** "The check is right if it is the number of zeros among the fuses 0 to 9." */
    private static void checks() {
        for (int ones = 0; ones <= 10; ones++) {
            for (int check = 0; check <= 15; check++) {
                int low = (1 << ones) - 1;
                int high = 0x3ff & ~(0x3ff >> ones);
                int due = check == 10 - ones ? ENTRY : ones + check == 0 ? FREE : WRONG;
                String at = ones + " ones with the check " + check;
                Check.due(at, Rows.withRow(5, low + 1024 * check, 3).row(5, 1), due);
                Check.due(at + ", from above", Rows.withRow(5, high + 1024 * check, 3).row(5, 1), due);
            }
        }
    }

    /** "The kind of a row is, the first one of these that applies" */
    private static void kinds() {
        int right = Rows.wanted(9, 50);
        int mark = 1 << 14;
        int lock = 1 << 15;
        int[][] rows = {
            {0, FREE}, {mark, VOID}, {lock, VOID}, {mark + lock, VOID}, {1 << 13, WRONG}, {1, WRONG},
            {(1 << 13) + mark, OVERRULED}, {1 + mark, OVERRULED}, {1 + mark + lock, OVERRULED}, {1 + lock, WRONG},
            {right, ENTRY}, {right + lock, ENTRY}, {right + mark, OVERRULED}, {right + mark + lock, OVERRULED},
            {right - 1, WRONG}, {right + 2, WRONG}, {right + 1024 * 2, WRONG}, {Rows.wanted(0, 0), ENTRY},
            {Rows.wanted(15, 63), ENTRY}, {0x3fff, WRONG}, {0xffff, OVERRULED}};
        for (int[] row : rows) {
            Check.due("kind of " + row[0], Rows.withRow(19, row[0], 3).row(19, 1), row[1]);
            Check.due("kind of " + row[0] + ", of 2", Rows.withRow(0, row[0], 2).row(0, 1), row[1]);
            Check.due("kind of " + row[0] + ", of 1", Rows.withRow(0, row[0], 1).row(0, 1), FREE);
            FuseRows counted = Rows.withRow(19, row[0], 3);
            for (int kind = 0; kind <= 4; kind++) {
                int due = (kind == FREE ? 19 : 0) + (kind == row[1] ? 1 : 0);
                Check.due("rows of the kind " + kind, counted.count(1 + kind), due);
            }
        }
    }

    /** "A row is locked if its fuse 15, read thrice, is 1 (whatever setting 0 is)." */
    private static void locks() {
        for (int row = 0; row < 20; row++) {
            FuseRows x = new FuseRows();
            for (int reading = 0; reading <= 1; reading++) {
                x.set(0, reading);
                for (int tick = 0; tick < 3; tick++) {
                    Check.due("a strength of 0", x.row(row, 7) + x.count(6), 0);
                    x.blow(row, 15, 1);
                    Check.due("a strength of 1", x.row(row, 7) + x.count(6), 0);
                    x.blow(row, 15, 2);
                    Check.due("a strength of 2", x.row(row, 7) + x.count(6), 2);
                    x.undo();
                    x.undo();
                    x.lock(row);
                    Check.due("a strength of 3", x.row(row, 7) + x.count(6), 2);
                    x.undo();
                    x.pass(1);
                }
            }
        }
    }

    /** "Fuses of a locked row are never blown." */
    private static void lockedRows() {
        for (int row = 0; row < 2; row++) {
            int locked = row;
            FuseRows x = new FuseRows();
            x.set(1, 2);
            x.set(3, 0);
            x.put(7, 7);
            x.put(7, 8);
            x.blow(locked, 15, 2);
            x.set(3, 1);
            int sum = x.row(locked, 8);
            for (int fuse = 0; fuse < 16; fuse++) {
                int at = fuse;
                Check.noState("blow of a locked row", x, () -> x.blow(locked, at, 3));
            }
            Check.noState("lock of a locked row", x, () -> x.lock(locked));
            Check.noState("refresh of a locked row", x, () -> x.refresh(locked));
            Rows.run(x, "lock:" + locked, 0);
            Rows.run(x, "fix:" + locked, 0);
            Check.due("a put marks the other one", x.ifPut(7, 9, 4), 1);
            x.put(7, 9);
            Check.due("entries", x.key(7, 2), 2);
            Check.due("a drop leaves the locked one", x.drop(7), 1);
            Check.due("its row", x.key(7, 1), locked);
            Check.due("no fuse has become stronger", x.row(locked, 8), sum);
            // all three entries are of 2, with the lock of the one and the mark of the other
            Check.due("heat weakens it, locked or not", x.heat(6),
                    Rows.size(7, 7) + Rows.size(7, 8) + Rows.size(7, 9) + 2);
            Check.due("heat opens it", x.count(6), 0);
        }
    }

    /** "The value of a key is that of the entry with this key and the greatest row." */
    private static void valueOfAKey() {
        FuseRows x = new FuseRows();
        int[] rows = {0, 1, 18, 19};
        for (int n = 0; n < 4; n++) {
            Rows.blow(x, rows[n], Rows.wanted(6, 40 - n), 3);
            Check.due("the value of the greatest row", x.key(6, 0), 40 - n);
            Check.due("the greatest row", x.key(6, 1), rows[n]);
        }
        for (int n = 3; n >= 0; n--) {
            Check.due("of those that are left", x.key(6, 0) * 100 + x.key(6, 1), (40 - n) * 100 + rows[n]);
            x.blow(rows[n], n % 2 == 0 ? 14 : 0, 2);
        }
        Check.due("overruled and wrong ones tell none", x.key(6, 0), -1);
    }

    /** "The rows of a key are all entries and overruled rows with it." */
    private static void rowsOfAKey() {
        int[][] rows = {{0, 0, 0}, {1 << 14, 0, 0}, {1 << 15, 0, 0}, {Rows.wanted(0, 3), 1, 1},
            {Rows.wanted(0, 3) + (1 << 14), 0, 1}, {(1 << 14) + 16, 0, 1}, {16, 0, 0}, {1 << 13, 0, 0},
            {(1 << 13) + (1 << 14), 0, 1}, {Rows.wanted(1, 3) + (1 << 14), 0, 0}, {Rows.wanted(8, 3), 0, 0}};
        for (int[] row : rows) {
            for (int at : new int[] {0, 19}) {
                FuseRows x = Rows.withRow(at, row[0], 3);
                Check.due("entries of the key 0 in " + row[0], x.key(0, 2), row[1]);
                Check.due("rows of the key 0 in " + row[0], x.key(0, 3), row[2]);
                Check.due("its history in " + row[0], x.history(0, 0), row[2] == 0 ? -1 : (row[0] >> 4) & 63);
                Check.due("none ahead of it", x.history(0, 1), -1);
            }
        }
    }

    // ---- Putting

    /** "The row for it is the one behind the last row that is not free (the row 0, if all are free)." */
    private static void rowForAValue() {
        FuseRows x = new FuseRows();
        Check.due("all are free", x.count(10), 0);
        x.put(1, 1);
        Check.due("put into the row 0", x.key(1, 1), 0);
        for (int row = 0; row < 20; row++) {
            int[] masks = {1, 1 << 13, 1 << 14, Rows.wanted(2, 2), Rows.wanted(2, 2) + (1 << 14)};
            for (int mask : masks) {
                FuseRows y = Rows.withRow(row, mask, 2);
                Check.due("behind the row " + row, y.count(10), row == 19 ? -1 : row + 1);
                if (row < 19) {
                    y.put(15, 63);
                    Check.due("put behind the row " + row, y.key(15, 1), row + 1);
                }
                FuseRows weak = Rows.withRow(row, mask, 1);
                Check.due("it reads free", weak.count(10), 0);
            }
        }
        FuseRows gap = new FuseRows();
        gap.blow(2, 0, 3);
        gap.lock(5);
        gap.blow(8, 0, 1);
        Check.due("gaps are left free, a void row counts", gap.count(10), 6);
    }

    /** "If there is none, or it is locked, it is refused." */
    private static void lastRowForAValue() {
        FuseRows x = Rows.withRow(18, 1, 3);
        Check.due("the row 19 is left", x.count(10), 19);
        Check.due("put into the row 19", x.put(4, 4), 1);
        Check.due("it is there", x.key(4, 1), 19);
        Check.due("none is left", x.count(10), -1);
        Check.noState("none is left", x, () -> x.put(4, 4));
        x.undo();
        x.blow(19, 15, 1);
        Check.due("a weak lock does not matter", x.count(10), 19);
        x.set(0, 0);
        // 19 and 15 leave the rest 1: a lock of 1 reads 0, one of 2 reads 1, and 0 at the tick 1
        Check.due("a weak lock does not matter, read once", x.count(10), 19);
        x.blow(19, 15, 2);
        Check.due("a lock that reads 1: the row is void", x.count(10), -1);
        x.pass(1);
        Check.due("the row reads free", x.row(19, 1), FREE);
        Check.due("but it is locked", x.count(10), -1);
        Check.noState("but it is locked", x, () -> x.put(4, 4));
        Rows.run(x, "pass:1;put:4:4;pass:1", 1);
        Check.due("refused in a text, too", x.count(0), 2);
    }

    /** "In the first one each fuse of the row that has to be 1 is blown with the charge of setting 1." */
    private static void chargeOfTheFirstTry() {
        for (int charge = 1; charge <= 3; charge++) {
            for (int[] entry : new int[][] {{0, 0}, {15, 63}, {15, 0}, {0, 63}, {5, 33}, {10, 30}}) {
                FuseRows x = new FuseRows();
                x.set(1, charge);
                x.blow(0, 0, 1);
                x.blow(0, 13, 1);
                Check.due("one try", x.put(entry[0], entry[1]), 1);
                int wanted = Rows.wanted(entry[0], entry[1]);
                for (int fuse = 0; fuse < 16; fuse++) {
                    int before = fuse == 0 || fuse == 13 ? 1 : 0;
                    int due = (wanted >> fuse & 1) == 1 ? charge : before;
                    Check.due("fuse " + fuse + " of " + wanted + ", charge " + charge, x.fuse(0, fuse, 0), due);
                }
                Check.due("energy", x.count(8), 2 + charge * Integer.bitCount(wanted));
            }
        }
    }

    /** "At most setting 2"; "each of them that reads 0 is blown with a charge that is 1 more than its strength". */
    private static void furtherTries() {
        // read once at the tick 0, the fuses of 7 and 0 (0, 1, 2, 10, 11, 12) have the rests 0, 1, 2, 1, 2, 0
        int[][] sums = {{6, 6 + 4, 6 + 4 + 2}, {12, 12 + 2, 12 + 2}, {18, 18, 18}};
        int[][] energies = {{6, 6 + 8, 6 + 8 + 6}, {12, 12 + 6, 12 + 6}, {18, 18, 18}};
        int[][] tries = {{1, 2, 3}, {1, 2, 2}, {1, 1, 1}};
        for (int charge = 1; charge <= 3; charge++) {
            for (int most = 1; most <= 3; most++) {
                FuseRows x = new FuseRows();
                x.set(0, 0);
                x.set(1, charge);
                x.set(2, most);
                String at = "charge " + charge + ", at most " + most + " tries";
                Check.due(at + ": ifPut", x.ifPut(7, 0, 0), tries[charge - 1][most - 1]);
                Check.due(at + ": its energy", x.ifPut(7, 0, 2), energies[charge - 1][most - 1]);
                Check.due(at, x.put(7, 0), tries[charge - 1][most - 1]);
                Check.due(at + ": strengths", x.row(0, 8), sums[charge - 1][most - 1]);
                Check.due(at + ": energy", x.count(8), energies[charge - 1][most - 1]);
                Check.due(at + ": it reads right", x.key(7, 0), charge + most > 3 ? 0 : -1);
            }
        }
        FuseRows thrice = new FuseRows();
        thrice.set(1, 1);
        thrice.set(2, 3);
        Check.due("read thrice, two tries are enough", thrice.put(7, 0), 2);
        Check.due("read thrice, each fuse gets 2", thrice.row(0, 8), 12);
    }

    /** "There is a further try only if the row does not read as an entry with this key and this value." */
    private static void onlyIfItReadsWrong() {
        FuseRows x = new FuseRows();
        x.set(1, 2);
        x.set(2, 3);
        x.blow(0, 7, 1);
        x.blow(0, 14, 1);
        Check.due("fuses that read 0 do not matter", x.put(4, 4), 1);
        x.set(0, 0);
        // row 1, tick 0: the fuses of 0 and 1 (4, 10, 13) have the rests 2, 2, 2; at the tick 1 all have 0
        Check.due("all have the rest 2: two tries", x.put(0, 1), 2);
        Check.due("all of 3 then", x.row(1, 8), 9);
        x.undo();
        x.pass(1);
        Check.due("all have the rest 0: one try", x.put(0, 1), 1);
        Check.due("all of 2 then", x.row(1, 8), 6);
        x.undo();
        x.set(1, 1);
        Check.due("charge 1 is enough there", x.put(0, 1), 1);
        Check.due("all of 1 then", x.row(1, 8), 3);
        x.undo();
        x.pass(1);
        Check.due("all have the rest 1: two tries", x.put(0, 1), 2);
        Check.due("all of 2 then", x.row(1, 8), 6);
        x.undo();
        x.pass(1);
        Check.due("all have the rest 2: three tries", x.put(0, 1), 3);
        Check.due("energy of three tries", x.count(8), 2 + 2 * Rows.size(4, 4) + 3 * (1 + 2 + 3));
    }

    /** "All other entries with this key in rows that are not locked get their mark blown" */
    private static void marks() {
        for (int charge = 1; charge <= 3; charge++) {
            FuseRows x = new FuseRows();
            Rows.blow(x, 0, Rows.wanted(6, 1), 3);
            Rows.blow(x, 1, Rows.wanted(7, 1), 3);
            Rows.blow(x, 2, Rows.wanted(6, 2), 3);
            x.lock(2);
            Rows.blow(x, 3, Rows.wanted(6, 3), 2);
            x.blow(3, 15, 1);
            Rows.blow(x, 4, Rows.wanted(6, 4) + 1024, 3);
            Rows.blow(x, 5, Rows.wanted(6, 5) + (1 << 14), 3);
            Rows.blow(x, 18, Rows.wanted(6, 63), 3);
            x.set(1, charge);
            int energy = x.count(8);
            Check.due("three marks", x.ifPut(6, 0, 4), 3);
            Check.due("energy with that of marks", x.ifPut(6, 0, 2), charge * (Rows.size(6, 0) + 3));
            x.put(6, 0);
            int[] due = {charge, 0, 0, charge, 0, 3};
            for (int row = 0; row < 6; row++) {
                Check.due("mark of the row " + row, x.fuse(row, 14, 0), due[row]);
            }
            Check.due("mark of the row 18", x.fuse(18, 14, 0), charge);
            Check.due("no mark of the row that is written", x.fuse(19, 14, 0), 0);
            Check.due("energy", x.count(8) - energy, charge * (Rows.size(6, 0) + 3));
            // a charge of 1 leaves all entries what they are, and the new row free
            Check.due("entries then", x.key(6, 2), charge == 1 ? 4 : 2);
            Check.due("rows then", x.key(6, 3), charge == 1 ? 5 : 6);
        }
    }

    /** "If setting 3 is 1." */
    private static void marksOfSetting3() {
        FuseRows x = new FuseRows();
        x.put(6, 1);
        x.set(3, 0);
        Check.due("0: no mark", x.ifPut(6, 2, 4), 0);
        Check.due("0: no energy of marks", x.ifPut(6, 2, 2), 3 * Rows.size(6, 2));
        x.put(6, 2);
        Check.due("0: two entries", x.key(6, 2), 2);
        x.set(3, 1);
        Check.due("1: two marks", x.ifPut(6, 3, 4), 2);
        Check.due("1: energy of marks", x.ifPut(6, 3, 2), 3 * Rows.size(6, 3) + 6);
        x.put(6, 3);
        Check.due("1: one entry", x.key(6, 2), 1);
        FuseRows same = new FuseRows();
        same.put(6, 1);
        same.put(6, 1);
        Check.due("the same value is written again", same.count(11) * 100 + same.key(6, 3) * 10 + same.key(6, 2), 221);
    }

    /** "The row for it is written then, whatever it reads as." */
    private static void writtenWhateverItReads() {
        FuseRows x = new FuseRows();
        x.set(1, 1);
        for (int n = 1; n <= 3; n++) {
            Check.due("one try", x.put(1, 0), 1);
            Check.due("values put", x.count(11), n);
            Check.due("the row reads free", x.count(10), 0);
            Check.due("energy", x.count(8), n * Rows.size(1, 0));
        }
        x.set(0, 0);
        // row 0, tick 0: the fuses of 1 and 0 (0, 10, 13) have the rests 0, 1, 1: of 1, the first one alone reads 1
        Check.due("now it reads wrong", x.row(0, 1), WRONG);
        Check.due("the next one is behind it", x.count(10), 1);
        x.put(2, 0);
        // row 1: the fuses of 2 and 0 (1, 10, 13) have the rests 2, 2, 2: all read 0
        Check.due("written, and free", x.count(11) * 10 + x.row(1, 1), 40);
    }
}
