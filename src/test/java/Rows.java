import java.util.function.Consumer;

/** Objects that several tests begin with, and what can be said of an entry by hand. */
final class Rows {
    static final String OPEN_TEXT = "lock:1;";
    static final String CLOSED_TEXT = "lock:1;" + "p".repeat(53);

    private Rows() {
    }

    /** The fuses that have to be 1 for a key and a value, with the right check. */
    static int wanted(int key, int value) {
        int data = key + 16 * value;
        return data + 1024 * (10 - Integer.bitCount(data));
    }

    /** How many fuses have to be 1 for a key and a value. */
    static int size(int key, int value) {
        return Integer.bitCount(wanted(key, value));
    }

    /** Blows the fuses of a mask, from the lowest one on, so that the lock is the last one. */
    static void blow(FuseRows rows, int row, int mask, int charge) {
        for (int fuse = 0; fuse < 16; fuse++) {
            if ((mask >> fuse & 1) == 1) {
                rows.blow(row, fuse, charge);
            }
        }
    }

    /** A new object with one row that has these fuses. */
    static FuseRows withRow(int row, int mask, int charge) {
        FuseRows rows = new FuseRows();
        blow(rows, row, mask, charge);
        return rows;
    }

    /** All 320 fuses with the same strength. */
    static FuseRows all(int charge) {
        FuseRows rows = new FuseRows();
        for (int row = 0; row < 20; row++) {
            blow(rows, row, 0xffff, charge);
        }
        return rows;
    }

    /** Seven calls have been saved, so that the oldest one is dropped; each row is open. */
    static FuseRows open() {
        FuseRows x = new FuseRows();
        x.set(1, 2);
        x.put(3, 9);
        x.blow(7, 4, 1);
        x.put(3, 10);
        x.heat(3);
        x.pass(5);
        x.blow(0, 3, 1);
        Check.type(x, OPEN_TEXT);
        return x;
    }

    /** No row is left for a put, the row 2 is locked, the tick is the last one, the buffer is full. */
    static FuseRows closed() {
        FuseRows x = open();
        passTo(x, 9998);
        x.set(1, 1);
        x.put(3, 11);
        x.blow(19, 0, 3);
        x.lock(2);
        x.drop(3);
        x.refresh(7);
        x.pass(1);
        Check.type(x, CLOSED_TEXT.substring(OPEN_TEXT.length()));
        return x;
    }

    /** Lets ticks pass, as many as are left. */
    static void passTo(FuseRows rows, int tick) {
        int now = rows.count(0);
        while (now < tick) {
            now = rows.pass(Math.min(99, tick - now));
        }
    }

    /** Types a text and runs it. */
    static void run(FuseRows rows, String text, int due) {
        Check.type(rows, text);
        Check.due("run() of " + text, rows.run(), due);
    }

    /** Both objects are in the same state, with the same saved states; nothing is left to undo of them then. */
    static void same(String what, FuseRows rows, FuseRows twin) {
        Check.due(what + ": the state", rows.digest(), twin.digest());
        while (twin.count(12) > 0 && rows.count(12) > 0) {
            Check.due(what + ": undo()", rows.undo(), twin.undo());
            Check.due(what + ": a saved state", rows.digest(), twin.digest());
        }
        Check.due(what + ": the buffer", rows.clearBuffer(), twin.clearBuffer());
    }

    /** The call throws just this exception, and changes nothing, also of the saved states. */
    static void refused(String what, FuseRows rows, FuseRows twin, Class<? extends RuntimeException> due,
            Consumer<FuseRows> call) {
        Check.refused(what, rows, due, () -> call.accept(rows));
        same(what, rows, twin);
    }
}
