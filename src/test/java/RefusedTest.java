import java.util.function.Consumer;
import java.util.function.Supplier;

/**
 * "A call that throws an exception changes nothing. If several exceptions apply, the one that is named first in the
 * throws clause is thrown." Each call is refused on an object with six saved states, which are undone then: a digest
 * alone would not tell that a state was saved, and the oldest one dropped for it.
 */
public final class RefusedTest {
    private static final Class<? extends RuntimeException> INDEX = IndexOutOfBoundsException.class;
    private static final Class<? extends RuntimeException> ARGUMENT = IllegalArgumentException.class;
    private static final Class<? extends RuntimeException> STATE = IllegalStateException.class;
    private static final int[] NO_ROW = {Integer.MIN_VALUE, -1, 20, Integer.MAX_VALUE};
    private static final int[] NO_FUSE = {Integer.MIN_VALUE, -1, 16, Integer.MAX_VALUE};
    private static final int[] NO_KEY = NO_FUSE;
    private static final int[] NO_VALUE = {Integer.MIN_VALUE, -1, 64, Integer.MAX_VALUE};
    private static final int[] NO_CHARGE = {Integer.MIN_VALUE, 0, 4, Integer.MAX_VALUE};
    private static final int[] NO_DEGREES = {Integer.MIN_VALUE, 0, 10, Integer.MAX_VALUE};
    private static final int[] NO_TICKS = {Integer.MIN_VALUE, 0, 100, Integer.MAX_VALUE};
    private static final int[] NO_SETTING = {Integer.MIN_VALUE, -1, 4, Integer.MAX_VALUE};
    private static final int[] NO_CODE = {Integer.MIN_VALUE, 0, 32, 127, Integer.MAX_VALUE};

    private static Supplier<FuseRows> scene;

    public static void main(String[] args) {
        // where no IllegalStateException applies, and where each of them does
        scene = Rows::open;
        changesOfFuses();
        changesOfTheRest();
        texts();
        looks();
        outcomes();
        scene = Rows::closed;
        changesOfFuses();
        changesOfTheRest();
        texts();
        looks();
        outcomes();
        states();
        statesOfFreeRows();
        nothingToUndo();
        Check.end();
    }

    private static void refused(String what, Class<? extends RuntimeException> due, Consumer<FuseRows> call) {
        Rows.refused(what, scene.get(), scene.get(), due, call);
    }

    private static void changesOfFuses() {
        for (int wrong : NO_ROW) {
            refused("2: no row " + wrong, INDEX, x -> x.blow(wrong, 0, 1));
            refused("2: no row " + wrong + ", and no charge", INDEX, x -> x.blow(wrong, 0, 0));
            refused("2: no row " + wrong + ", no fuse and no charge", INDEX, x -> x.blow(wrong, 16, 4));
            refused("5: no row " + wrong, INDEX, x -> x.lock(wrong));
            refused("6: no row " + wrong, INDEX, x -> x.refresh(wrong));
        }
        for (int wrong : NO_FUSE) {
            refused("2: no fuse " + wrong, INDEX, x -> x.blow(0, wrong, 1));
            refused("2: no fuse " + wrong + ", and no charge", INDEX, x -> x.blow(0, wrong, 0));
            refused("2: no fuse " + wrong + " of the row 2", INDEX, x -> x.blow(2, wrong, 1));
            refused("2: no fuse " + wrong + " of the row 2, and no charge", INDEX, x -> x.blow(2, wrong, 4));
        }
        for (int wrong : NO_CHARGE) {
            refused("2: charge " + wrong, ARGUMENT, x -> x.blow(0, 0, wrong));
            refused("2: charge " + wrong + " in the row 2", ARGUMENT, x -> x.blow(2, 0, wrong));
        }
        for (int wrong : NO_KEY) {
            refused("3: key " + wrong, ARGUMENT, x -> x.put(wrong, 0));
            refused("4: key " + wrong, ARGUMENT, x -> x.drop(wrong));
        }
        for (int wrong : NO_VALUE) {
            refused("3: value " + wrong, ARGUMENT, x -> x.put(3, wrong));
            refused("3: value " + wrong + ", and no key", ARGUMENT, x -> x.put(16, wrong));
        }
    }

    private static void changesOfTheRest() {
        for (int wrong : NO_DEGREES) {
            refused("7: degrees " + wrong, ARGUMENT, x -> x.heat(wrong));
        }
        for (int wrong : NO_TICKS) {
            refused("8: ticks " + wrong, ARGUMENT, x -> x.pass(wrong));
        }
        for (int wrong : NO_SETTING) {
            refused("9: setting " + wrong, INDEX, x -> x.set(wrong, 1));
            refused("9: setting " + wrong + ", and a value for none", INDEX, x -> x.set(wrong, 4));
            refused("9: setting " + wrong + ", and a value for none", INDEX, x -> x.set(wrong, -1));
        }
        int[] below = {-1, 0, 0, -1};
        int[] above = {2, 4, 4, 2};
        for (int s = 0; s < 4; s++) {
            int setting = s;
            refused("9: too small for " + s, ARGUMENT, x -> x.set(setting, below[setting]));
            refused("9: too large for " + s, ARGUMENT, x -> x.set(setting, above[setting]));
            refused("9: least for " + s, ARGUMENT, x -> x.set(setting, Integer.MIN_VALUE));
            refused("9: greatest for " + s, ARGUMENT, x -> x.set(setting, Integer.MAX_VALUE));
        }
    }

    private static void texts() {
        for (int wrong : NO_CODE) {
            refused("10: code " + wrong, ARGUMENT, x -> x.append(wrong));
        }
        refused("13: not complete", ARGUMENT, x -> x.run());
    }

    private static void looks() {
        for (int wrong : NO_ROW) {
            refused("15: no row " + wrong, INDEX, x -> x.fuse(wrong, 0, 0));
            refused("15: no row " + wrong + ", no fuse, no such property", INDEX, x -> x.fuse(wrong, 16, 3));
            refused("16: no row " + wrong, INDEX, x -> x.row(wrong, 0));
            refused("16: no row " + wrong + ", no such property", INDEX, x -> x.row(wrong, 9));
        }
        for (int wrong : NO_FUSE) {
            refused("15: no fuse " + wrong, INDEX, x -> x.fuse(0, wrong, 0));
            refused("15: no fuse " + wrong + ", no such property", INDEX, x -> x.fuse(0, wrong, -1));
        }
        for (int wrong : NO_KEY) {
            refused("17: key " + wrong, ARGUMENT, x -> x.key(wrong, 0));
            refused("18: key " + wrong, ARGUMENT, x -> x.history(wrong, 0));
        }
        for (int wrong : NO_SETTING) {
            refused("20: setting " + wrong, INDEX, x -> x.setting(wrong));
        }
        refused("18: back -1", ARGUMENT, x -> x.history(3, -1));
        refused("18: back far below 0", ARGUMENT, x -> x.history(3, Integer.MIN_VALUE));
        noProperty("15", 3, (x, what) -> x.fuse(0, 0, what));
        noProperty("16", 9, (x, what) -> x.row(0, what));
        noProperty("17", 6, (x, what) -> x.key(3, what));
        noProperty("19", 13, (x, what) -> x.count(what));
    }

    private static void outcomes() {
        for (int wrong : NO_KEY) {
            refused("21: key " + wrong, ARGUMENT, x -> x.ifPut(wrong, 0, 0));
        }
        for (int wrong : NO_VALUE) {
            refused("21: value " + wrong, ARGUMENT, x -> x.ifPut(0, wrong, 0));
        }
        for (int wrong : NO_DEGREES) {
            refused("22: degrees " + wrong, ARGUMENT, x -> x.ifHeated(wrong, 0));
        }
        for (int wrong : new int[] {Integer.MIN_VALUE, -1, 100, Integer.MAX_VALUE}) {
            refused("23: ticks " + wrong + ", once", ARGUMENT, x -> x.ifRead(wrong, false));
            refused("23: ticks " + wrong + ", thrice", ARGUMENT, x -> x.ifRead(wrong, true));
        }
        noProperty("21", 5, (x, what) -> x.ifPut(3, 9, what));
        noProperty("22", 3, (x, what) -> x.ifHeated(6, what));
    }

    private interface Look {
        int at(FuseRows rows, int what);
    }

    private static void noProperty(String promise, int size, Look look) {
        for (int wrong : new int[] {Integer.MIN_VALUE, -1, size, Integer.MAX_VALUE}) {
            refused(promise + ": no property " + wrong, ARGUMENT, x -> look.at(x, wrong));
        }
    }

    /** Of the closed object: what its state alone refuses. */
    private static void states() {
        for (int fuse = 0; fuse < 16; fuse++) {
            for (int charge = 1; charge <= 3; charge++) {
                int at = fuse;
                int with = charge;
                refused("2: a fuse of a locked row", STATE, x -> x.blow(2, at, with));
            }
        }
        refused("3: no row behind the last one", STATE, x -> x.put(3, 9));
        refused("3: no row, with the least arguments", STATE, x -> x.put(0, 0));
        refused("3: no row, with the greatest arguments", STATE, x -> x.put(15, 63));
        refused("5: a locked row", STATE, x -> x.lock(2));
        refused("6: a locked row", STATE, x -> x.refresh(2));
        refused("8: 1 above the last tick", STATE, x -> x.pass(1));
        refused("8: 99 above the last tick", STATE, x -> x.pass(99));
        refused("10: the 61st character", STATE, x -> x.append(33));
        refused("10: the 61st character", STATE, x -> x.append(126));
        // the tick 9999 is refused by pass() alone
        FuseRows x = Rows.closed();
        Check.due("8: the tick", x.count(0), 9999);
        Check.due("8: other calls go on at the last tick", x.lock(3), 2);
        Check.due("8: undo() goes back", x.undo() * 100000 + x.count(0), 509999);
        Check.due("8: undo() goes back", x.undo() * 100000 + x.count(0), 409998);
        Check.due("8: up to the last tick again", x.pass(1), 9999);
    }

    /** "if there is none, or it is locked, it is refused": a row that reads free, and is locked. */
    private static void statesOfFreeRows() {
        scene = () -> {
            FuseRows x = Rows.open();
            x.undo();
            x.blow(2, 15, 2);
            x.set(0, 0);
            // the fuse 15 of the row 2 has the rest 1 at the tick 5, 2 at the tick 6
            x.pass(1);
            return x;
        };
        Check.due("3: a locked row that reads free", scene.get().row(2, 1) * 10 + scene.get().row(2, 7), 1);
        refused("3: the row for it is locked", STATE, x -> x.put(3, 9));
        refused("3: the row for it is locked, and the key wrong", ARGUMENT, x -> x.put(16, 9));
        refused("3: the row for it is locked, and the value wrong", ARGUMENT, x -> x.put(3, 64));
        refused("5: it is locked, though it reads free", STATE, x -> x.lock(2));
        refused("6: it is locked, though it reads free", STATE, x -> x.refresh(2));
        refused("2: it is locked, though it reads free", STATE, x -> x.blow(2, 0, 1));
        refused("21: the row for it is locked, and the key wrong", ARGUMENT, x -> x.ifPut(16, 9, 0));
    }

    private static void nothingToUndo() {
        scene = () -> {
            FuseRows x = Rows.closed();
            for (int left = 6; left > 0; left--) {
                x.undo();
            }
            return x;
        };
        refused("14: none left", STATE, x -> x.undo());
        scene = FuseRows::new;
        refused("14: none yet", STATE, x -> x.undo());
        refused("13: an empty buffer", ARGUMENT, x -> x.run());
    }
}
