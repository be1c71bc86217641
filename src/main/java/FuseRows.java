/** Rows of fuses that are written once for each bit; ../shared/DOC.md says what each call does. */
public final class FuseRows {
    public static final int NONE = -1;

    private static final int ROWS = 20;
    private static final int FUSES = 16;
    private static final int KEYS = 16;
    private static final int VALUES = 64;
    private static final int LOCK_FUSE = 15;
    private static final int FULL_CHARGE = 3;
    private static final int DEGREES = 9;
    private static final int TICKS_AT_ONCE = 99;
    private static final int LAST_TICK = 9999;

    private static final int READING_SETTING = 0;
    private static final int CHARGE_SETTING = 1;
    private static final int TRIES_SETTING = 2;
    private static final int MARKS_SETTING = 3;
    private static final int SETTINGS = 4;
    private static final int[] LOWEST_SETTING = {0, 1, 1, 0};
    private static final int[] HIGHEST_SETTING = {1, 3, 3, 1};

    private static final int FREE = 0;
    private static final int VOID = 1;
    private static final int OVERRULED = 2;
    private static final int WRONG = 3;
    private static final int ENTRY = 4;

    private static final int COUNTS = 13;
    private static final int ROW_PROPERTIES = 9;
    private static final int KEY_PROPERTIES = 6;
    private static final int PUT_PROPERTIES = 5;
    private static final int HEAT_PROPERTIES = 3;

    private final State now = new State();
    /** Made once for all calls that ask what would be; its content is worth nothing between two calls. */
    private final State trial = new State();
    private final SavedStates saved = new SavedStates();
    private final OrderText text = new OrderText();

    public FuseRows() {
    }

    // ---- fuses, rows

    public int blow(int row, int fuse, int charge)
            throws IndexOutOfBoundsException, IllegalArgumentException, IllegalStateException {
        requireIndex(isIndex(row, ROWS) && isIndex(fuse, FUSES));
        requireArgument(isWithin(charge, 1, FULL_CHARGE));
        requireState(!now.isLocked(row));
        saved.save(now);
        now.blowFuse(row, fuse, charge);
        return now.strength(row, fuse);
    }

    public int put(int key, int value) throws IllegalArgumentException, IllegalStateException {
        requireArgument(isIndex(key, KEYS) && isIndex(value, VALUES));
        requireState(now.nextRow() != NONE);
        saved.save(now);
        return now.putNext(key, value);
    }

    public int drop(int key) throws IllegalArgumentException {
        requireArgument(isIndex(key, KEYS));
        saved.save(now);
        return now.markEntries(key, NONE, FULL_CHARGE);
    }

    public int lock(int row) throws IndexOutOfBoundsException, IllegalStateException {
        requireIndex(isIndex(row, ROWS));
        requireState(!now.isLocked(row));
        saved.save(now);
        now.blowFuse(row, LOCK_FUSE, FULL_CHARGE);
        return now.lockedRows();
    }

    public int refresh(int row) throws IndexOutOfBoundsException, IllegalStateException {
        requireIndex(isIndex(row, ROWS));
        requireState(!now.isLocked(row));
        saved.save(now);
        return now.refreshRow(row);
    }

    public int heat(int degrees) throws IllegalArgumentException {
        requireArgument(isWithin(degrees, 1, DEGREES));
        saved.save(now);
        return now.heatRows(degrees);
    }

    public int pass(int ticks) throws IllegalArgumentException, IllegalStateException {
        requireArgument(isWithin(ticks, 1, TICKS_AT_ONCE));
        requireState(now.tick + ticks <= LAST_TICK);
        saved.save(now);
        now.tick += ticks;
        return now.tick;
    }

    public int set(int setting, int value) throws IndexOutOfBoundsException, IllegalArgumentException {
        requireIndex(isIndex(setting, SETTINGS));
        requireArgument(isWithin(value, LOWEST_SETTING[setting], HIGHEST_SETTING[setting]));
        saved.save(now);
        int previous = now.settings[setting];
        now.settings[setting] = value;
        return previous;
    }

    // ---- texts

    public int append(int code) throws IllegalArgumentException, IllegalStateException {
        requireArgument(isWithin(code, 33, 126));
        requireState(!text.isFull());
        text.add((char) code);
        return text.length;
    }

    public int clearBuffer() {
        int length = text.length;
        text.empty();
        return length;
    }

    public int firstError() {
        text.scan();
        return text.position;
    }

    public int run() throws IllegalArgumentException {
        text.scan();
        requireArgument(text.complete);
        saved.save(now);
        int done = 0;
        while (done < text.orders && carryOut(done)) {
            done++;
        }
        text.empty();
        return done;
    }

    public int undo() throws IllegalStateException {
        requireState(saved.count > 0);
        saved.restore(now);
        return saved.count;
    }

    // ---- looks; nothing is changed

    public int fuse(int row, int fuse, int what) throws IndexOutOfBoundsException, IllegalArgumentException {
        requireIndex(isIndex(row, ROWS) && isIndex(fuse, FUSES));
        requireArgument(isIndex(what, 3));
        if (what == 0) {
            return now.strength(row, fuse);
        }
        return (now.readAt(row, now.tick, what == 2) >> fuse) & 1;
    }

    public int row(int row, int what) throws IndexOutOfBoundsException, IllegalArgumentException {
        requireIndex(isIndex(row, ROWS));
        requireArgument(isIndex(what, ROW_PROPERTIES));
        return rowProperty(row, what);
    }

    public int key(int key, int what) throws IllegalArgumentException {
        requireArgument(isIndex(key, KEYS) && isIndex(what, KEY_PROPERTIES));
        return keyProperty(key, what);
    }

    public int history(int key, int back) throws IllegalArgumentException {
        requireArgument(isIndex(key, KEYS) && back >= 0);
        return now.earlierValue(key, back);
    }

    public int count(int what) throws IllegalArgumentException {
        requireArgument(isIndex(what, COUNTS));
        return countOf(what);
    }

    public int setting(int setting) throws IndexOutOfBoundsException {
        requireIndex(isIndex(setting, SETTINGS));
        return now.settings[setting];
    }

    // ---- what would be; nothing is changed

    public int ifPut(int key, int value, int what) throws IllegalArgumentException {
        requireArgument(isIndex(key, KEYS) && isIndex(value, VALUES) && isIndex(what, PUT_PROPERTIES));
        return putOutcome(key, value, what);
    }

    public int ifHeated(int degrees, int what) throws IllegalArgumentException {
        requireArgument(isWithin(degrees, 1, DEGREES) && isIndex(what, HEAT_PROPERTIES));
        return heatOutcome(degrees, what);
    }

    public int ifRead(int ticks, boolean thrice) throws IllegalArgumentException {
        requireArgument(isWithin(ticks, 0, TICKS_AT_ONCE));
        return valuesReadOtherwise(ticks, thrice);
    }

    public int worst() {
        int worstRow = NONE;
        int most = 0;
        for (int row = 0; row < ROWS; row++) {
            int doubtful = now.doubtfulFuses(row);
            if (doubtful > most && !now.isLocked(row) && now.kind(row) == ENTRY) {
                worstRow = row;
                most = doubtful;
            }
        }
        return worstRow;
    }

    public double sureShare() {
        int sure = 0;
        int blown = 0;
        for (int row = 0; row < ROWS; row++) {
            sure += Integer.bitCount(now.ones[row] & now.twos[row]);
            blown += Integer.bitCount(now.ones[row] | now.twos[row]);
        }
        if (blown == 0) {
            return 1.0;
        }
        return (double) sure / (double) blown;
    }

    public long digest() {
        long hash = 2683L;
        for (int what = 0; what < COUNTS; what++) {
            hash = 31L * hash + countOf(what);
        }
        for (int setting = 0; setting < SETTINGS; setting++) {
            hash = 31L * hash + now.settings[setting];
        }
        for (int row = 0; row < ROWS; row++) {
            for (int what = 0; what < ROW_PROPERTIES; what++) {
                hash = 31L * hash + rowProperty(row, what);
            }
            for (int fuse = 0; fuse < FUSES; fuse++) {
                hash = 31L * hash + now.strength(row, fuse);
            }
        }
        for (int key = 0; key < KEYS; key++) {
            for (int what = 0; what < KEY_PROPERTIES; what++) {
                hash = 31L * hash + keyProperty(key, what);
            }
            hash = 31L * hash + now.earlierValue(key, 0);
            hash = 31L * hash + now.earlierValue(key, 1);
        }
        for (int what = 0; what < PUT_PROPERTIES; what++) {
            hash = 31L * hash + putOutcome(3, 5, what);
        }
        for (int what = 0; what < HEAT_PROPERTIES; what++) {
            hash = 31L * hash + heatOutcome(6, what);
        }
        hash = 31L * hash + valuesReadOtherwise(1, false);
        hash = 31L * hash + valuesReadOtherwise(1, true);
        hash = 31L * hash + worst();
        hash = 31L * hash + bitsOfShare(sureShare());
        hash = 31L * hash + text.length;
        for (int index = 0; index < text.length; index++) {
            hash = 31L * hash + text.signs[index];
        }
        return hash;
    }

    // ---- arguments

    private static boolean isIndex(int index, int size) {
        return index >= 0 && index < size;
    }

    private static boolean isWithin(int number, int lowest, int highest) {
        return number >= lowest && number <= highest;
    }

    private static void requireIndex(boolean right) throws IndexOutOfBoundsException {
        if (!right) {
            throw new IndexOutOfBoundsException("no such row, fuse or setting");
        }
    }

    private static void requireArgument(boolean right) throws IllegalArgumentException {
        if (!right) {
            throw new IllegalArgumentException("an argument is out of range, or the buffer is not complete");
        }
    }

    private static void requireState(boolean right) throws IllegalStateException {
        if (!right) {
            throw new IllegalStateException("refused in this state");
        }
    }

    // ---- orders

    /** Tells whether the order was carried out; one that its method would refuse changes nothing. */
    private boolean carryOut(int order) {
        if (!isIndex(order, text.orders) || isRefused(text.kinds[order], text.numbers[order])) {
            return false;
        }
        int number = text.numbers[order];
        switch (text.kinds[order]) {
            case OrderText.PUT:
                now.putNext(number, text.values[order]);
                break;
            case OrderText.LOCK:
                now.blowFuse(number, LOCK_FUSE, FULL_CHARGE);
                break;
            case OrderText.HEAT:
                now.heatRows(number);
                break;
            case OrderText.PASS:
                now.tick += number;
                break;
            default:
                now.refreshRow(number);
                break;
        }
        return true;
    }

    private boolean isRefused(int kind, int number) {
        switch (kind) {
            case OrderText.PUT:
                return now.nextRow() == NONE;
            case OrderText.HEAT:
                return false;
            case OrderText.PASS:
                return now.tick + number > LAST_TICK;
            default:
                return now.isLocked(number);
        }
    }

    // ---- properties

    private int rowProperty(int row, int what) {
        int mask = now.read(row);
        switch (what) {
            case 0:
                return mask;
            case 1:
                return Mask.kindOf(mask);
            case 2:
                return Mask.keyOf(mask);
            case 3:
                return Mask.valueOf(mask);
            case 4:
                return Mask.checkOf(mask);
            case 5:
                return Mask.zerosOf(mask);
            case 6:
                return now.doubtfulFuses(row);
            case 7:
                return now.isLocked(row) ? 1 : 0;
            default:
                return now.strengthSum(row);
        }
    }

    private int keyProperty(int key, int what) {
        switch (what) {
            case 0:
                return now.valueOfKey(key);
            case 1:
                return now.entryRow(key, now.tick, now.readsThrice());
            case 2:
                return now.entriesOf(key);
            case 3:
                return now.rowsOf(key);
            case 4:
                return now.greatestValue(key);
            default:
                return now.steadyReadings(key);
        }
    }

    private int countOf(int what) {
        switch (what) {
            case 0:
                return now.tick;
            case 6:
                return now.lockedRows();
            case 7:
                return now.allDoubtfulFuses();
            case 8:
                return now.energy;
            case 9:
                return now.keysWithValue();
            case 10:
                return now.nextRow();
            case 11:
                return now.valuesPut;
            case 12:
                return saved.count;
            default:
                return now.rowsOfKind(what - 1);
        }
    }

    // ---- outcomes

    private int putOutcome(int key, int value, int what) {
        int row = now.nextRow();
        if (row == NONE) {
            return NONE;
        }
        trial.copyFrom(now);
        int tries = trial.writeEntry(row, key, value);
        int marks = trial.markEarlier(row, key);
        switch (what) {
            case 0:
                return tries;
            case 1:
                return trial.kind(row);
            case 2:
                return trial.energy - now.energy;
            case 3:
                return trial.valueOfKey(key);
            default:
                return marks;
        }
    }

    private int heatOutcome(int degrees, int what) {
        trial.copyFrom(now);
        int weaker = trial.heatRows(degrees);
        if (what == 0) {
            return weaker;
        }
        int changed = 0;
        if (what == 1) {
            for (int row = 0; row < ROWS; row++) {
                changed += trial.kind(row) != now.kind(row) ? 1 : 0;
            }
            return changed;
        }
        for (int key = 0; key < KEYS; key++) {
            changed += trial.valueOfKey(key) != now.valueOfKey(key) ? 1 : 0;
        }
        return changed;
    }

    private int valuesReadOtherwise(int ticks, boolean thrice) {
        int changed = 0;
        for (int key = 0; key < KEYS; key++) {
            changed += now.valueAt(key, now.tick + ticks, thrice) != now.valueOfKey(key) ? 1 : 0;
        }
        return changed;
    }

    /**
     * The bits of a share, 0.0 to 1.0, as Double.doubleToLongBits gives them, which ../shared/LANGUAGE.md
     * does not allow. Doubling and subtracting 1.0 are exact here, so no bit is lost.
     */
    private static long bitsOfShare(double share) {
        if (share <= 0.0) {
            return 0L;
        }
        double significand = share;
        long exponent = 1023L;
        for (int doublings = 0; doublings < 64 && significand < 1.0; doublings++) {
            significand = significand * 2.0;
            exponent--;
        }
        long fraction = (long) ((significand - 1.0) * 4503599627370496.0);
        return (exponent << 52) | fraction;
    }

    /** What the 16 fuses of a row tell, as read: bit f of a mask is the fuse f. */
    private static final class Mask {
        private static final int KEY_AND_VALUE = 0x03ff;
        private static final int KEY_AND_VALUE_FUSES = 10;
        private static final int KEY_VALUE_CHECK = 0x3fff;
        private static final int MARK = 0x4000;
        static final int MARK_FUSE = 14;

        static int keyOf(int mask) {
            return mask & 15;
        }

        static int valueOf(int mask) {
            return (mask >> 4) & 63;
        }

        static int checkOf(int mask) {
            return (mask >> 10) & 15;
        }

        static int zerosOf(int mask) {
            return KEY_AND_VALUE_FUSES - Integer.bitCount(mask & KEY_AND_VALUE);
        }

        static int kindOf(int mask) {
            if (mask == 0) {
                return FREE;
            }
            if ((mask & KEY_VALUE_CHECK) == 0) {
                return VOID;
            }
            if ((mask & MARK) != 0) {
                return OVERRULED;
            }
            int zeros = KEY_AND_VALUE_FUSES - Integer.bitCount(mask & KEY_AND_VALUE);
            return checkOf(mask) == zeros ? ENTRY : WRONG;
        }

        static int ofEntry(int key, int value) {
            int data = key | (value << 4);
            return data | (zerosOf(data) << 10);
        }
    }

    /** All that undo brings back. */
    private static final class State {
        /** Bit n is set if n leaves the rest 0 by 3. */
        private static final int EVERY_THIRD = 0x9249;

        /** The strength of the fuse f is bit f of ones[row], plus 2 times bit f of twos[row]. */
        final int[] ones = new int[ROWS];
        final int[] twos = new int[ROWS];
        final int[] settings = {1, 3, 1, 1};
        int tick;
        int energy;
        int valuesPut;

        void copyFrom(State other) {
            System.arraycopy(other.ones, 0, ones, 0, ROWS);
            System.arraycopy(other.twos, 0, twos, 0, ROWS);
            System.arraycopy(other.settings, 0, settings, 0, SETTINGS);
            tick = other.tick;
            energy = other.energy;
            valuesPut = other.valuesPut;
        }

        // ---- readings

        int strength(int row, int fuse) {
            return ((ones[row] >> fuse) & 1) + 2 * ((twos[row] >> fuse) & 1);
        }

        /**
         * A fuse meets each rest by 3 once in three ticks: read thrice, it is 1 from the strength 2 on.
         * Read once, it is 1 from the strength 1 on where the rest is 0, from 2 on where it is 1, and
         * from 3 on where it is 2.
         */
        int readAt(int row, int when, boolean thrice) {
            if (thrice) {
                return twos[row];
            }
            int rest = (when + row) % 3;
            int rest0 = EVERY_THIRD >> rest;
            int rest1 = (EVERY_THIRD << 1) >> rest;
            int rest2 = (EVERY_THIRD << 2) >> rest;
            return ((ones[row] | twos[row]) & rest0) | (twos[row] & rest1) | (ones[row] & twos[row] & rest2);
        }

        boolean readsThrice() {
            return settings[READING_SETTING] == 1;
        }

        int read(int row) {
            return readAt(row, tick, readsThrice());
        }

        int kind(int row) {
            return Mask.kindOf(read(row));
        }

        boolean isLocked(int row) {
            return ((readAt(row, tick, true) >> LOCK_FUSE) & 1) == 1;
        }

        // ---- rows

        int doubtfulFuses(int row) {
            return Integer.bitCount(ones[row] ^ twos[row]);
        }

        int strengthSum(int row) {
            return Integer.bitCount(ones[row]) + 2 * Integer.bitCount(twos[row]);
        }

        int allDoubtfulFuses() {
            int doubtful = 0;
            for (int row = 0; row < ROWS; row++) {
                doubtful += doubtfulFuses(row);
            }
            return doubtful;
        }

        int lockedRows() {
            int locked = 0;
            for (int row = 0; row < ROWS; row++) {
                locked += isLocked(row) ? 1 : 0;
            }
            return locked;
        }

        int rowsOfKind(int kind) {
            int rows = 0;
            for (int row = 0; row < ROWS; row++) {
                rows += kind(row) == kind ? 1 : 0;
            }
            return rows;
        }

        /** The row for the next value; NONE if it would be refused. */
        int nextRow() {
            int next = ROWS;
            while (next > 0 && kind(next - 1) == FREE) {
                next--;
            }
            return next == ROWS || isLocked(next) ? NONE : next;
        }

        // ---- keys

        boolean isRowOf(int row, int key) {
            int mask = read(row);
            int kind = Mask.kindOf(mask);
            return (kind == ENTRY || kind == OVERRULED) && Mask.keyOf(mask) == key;
        }

        int entryRow(int key, int when, boolean thrice) {
            for (int row = ROWS - 1; row >= 0; row--) {
                int mask = readAt(row, when, thrice);
                if (Mask.keyOf(mask) == key && Mask.kindOf(mask) == ENTRY) {
                    return row;
                }
            }
            return NONE;
        }

        int valueAt(int key, int when, boolean thrice) {
            int row = entryRow(key, when, thrice);
            return row == NONE ? NONE : Mask.valueOf(readAt(row, when, thrice));
        }

        int valueOfKey(int key) {
            return valueAt(key, tick, readsThrice());
        }

        int keysWithValue() {
            int keys = 0;
            for (int key = 0; key < KEYS; key++) {
                keys += entryRow(key, tick, readsThrice()) != NONE ? 1 : 0;
            }
            return keys;
        }

        int entriesOf(int key) {
            int entries = 0;
            for (int row = 0; row < ROWS; row++) {
                int mask = read(row);
                entries += Mask.keyOf(mask) == key && Mask.kindOf(mask) == ENTRY ? 1 : 0;
            }
            return entries;
        }

        int rowsOf(int key) {
            int rows = 0;
            for (int row = 0; row < ROWS; row++) {
                rows += isRowOf(row, key) ? 1 : 0;
            }
            return rows;
        }

        int greatestValue(int key) {
            int greatest = NONE;
            for (int row = 0; row < ROWS; row++) {
                if (isRowOf(row, key)) {
                    greatest = Math.max(greatest, Mask.valueOf(read(row)));
                }
            }
            return greatest;
        }

        int earlierValue(int key, int back) {
            int ahead = back;
            for (int row = ROWS - 1; row >= 0; row--) {
                if (isRowOf(row, key)) {
                    if (ahead == 0) {
                        return Mask.valueOf(read(row));
                    }
                    ahead--;
                }
            }
            return NONE;
        }

        int steadyReadings(int key) {
            int readThrice = valueAt(key, tick, true);
            int steady = 0;
            for (int later = 0; later < 3; later++) {
                steady += valueAt(key, tick + later, false) == readThrice ? 1 : 0;
            }
            return steady;
        }

        // ---- changes

        void blowFuse(int row, int fuse, int charge) {
            int strength = Math.max(strength(row, fuse), charge);
            ones[row] = (ones[row] & ~(1 << fuse)) | ((strength & 1) << fuse);
            twos[row] = (twos[row] & ~(1 << fuse)) | ((strength >> 1) << fuse);
            energy += charge;
        }

        void blowFuses(int row, int mask, int charge) {
            for (int fuse = 0; fuse < FUSES; fuse++) {
                if (((mask >> fuse) & 1) == 1) {
                    blowFuse(row, fuse, charge);
                }
            }
        }

        /** Blows each fuse of a mask one step stronger; none of them has the full strength yet. */
        void strengthenFuses(int row, int mask) {
            for (int fuse = 0; fuse < FUSES; fuse++) {
                if (((mask >> fuse) & 1) == 1) {
                    blowFuse(row, fuse, strength(row, fuse) + 1);
                }
            }
        }

        /** Returns how many tries there were; NONE if it is refused. */
        int putNext(int key, int value) {
            int row = nextRow();
            if (row == NONE) {
                return NONE;
            }
            int tries = writeEntry(row, key, value);
            markEarlier(row, key);
            valuesPut++;
            return tries;
        }

        /** Returns how many tries there were. */
        int writeEntry(int row, int key, int value) {
            int wanted = Mask.ofEntry(key, value);
            blowFuses(row, wanted, settings[CHARGE_SETTING]);
            int tries = 1;
            while (tries < settings[TRIES_SETTING] && !tellsEntry(row, key, value)) {
                strengthenFuses(row, wanted & ~read(row));
                tries++;
            }
            return tries;
        }

        boolean tellsEntry(int row, int key, int value) {
            int mask = read(row);
            return Mask.kindOf(mask) == ENTRY && Mask.keyOf(mask) == key && Mask.valueOf(mask) == value;
        }

        /** Returns how many marks are blown. */
        int markEarlier(int row, int key) {
            return settings[MARKS_SETTING] == 1 ? markEntries(key, row, settings[CHARGE_SETTING]) : 0;
        }

        /** Returns how many marks are blown. One mark changes no other row, so the rows can be judged on the way. */
        int markEntries(int key, int sparedRow, int charge) {
            int marks = 0;
            for (int row = 0; row < ROWS; row++) {
                int mask = read(row);
                if (row != sparedRow && !isLocked(row) && Mask.keyOf(mask) == key && Mask.kindOf(mask) == ENTRY) {
                    blowFuse(row, Mask.MARK_FUSE, charge);
                    marks++;
                }
            }
            return marks;
        }

        /** Returns how many fuses become stronger. */
        int refreshRow(int row) {
            int stronger = Integer.bitCount(twos[row] & ~ones[row]);
            blowFuses(row, readAt(row, tick, true), FULL_CHARGE);
            return stronger;
        }

        /** Returns how many fuses become weaker. */
        int heatRows(int degrees) {
            int weaker = 0;
            for (int row = 0; row < ROWS; row++) {
                int strength1 = degrees >= 3 ? ones[row] & ~twos[row] : 0;
                int strength2 = degrees >= 6 ? twos[row] & ~ones[row] : 0;
                ones[row] = (ones[row] & ~strength1) | strength2;
                twos[row] = twos[row] & ~strength2;
                weaker += Integer.bitCount(strength1) + Integer.bitCount(strength2);
            }
            return weaker;
        }
    }

    /** The latest states, in a ring of states that are made once and used again. */
    private static final class SavedStates {
        private static final int SIZE = 6;

        private final State[] ring = new State[SIZE];
        private int oldest;
        int count;

        SavedStates() {
            for (int index = 0; index < SIZE; index++) {
                ring[index] = new State();
            }
        }

        void save(State state) {
            ring[(oldest + count) % SIZE].copyFrom(state);
            if (count < SIZE) {
                count++;
            } else {
                oldest = (oldest + 1) % SIZE;
            }
        }

        void restore(State state) {
            if (count > 0) {
                count--;
                state.copyFrom(ring[(oldest + count) % SIZE]);
            }
        }
    }

    /** The buffer, and what a scan of it finds. */
    private static final class OrderText {
        static final int PUT = 0;
        static final int LOCK = 1;
        static final int HEAT = 2;
        static final int PASS = 3;
        static final int FIX = 4;
        private static final int KINDS = 5;
        private static final int SIZE = 60;
        /** The shortest order, with the sign behind it, has 6 characters. */
        private static final int MOST_ORDERS = 10;
        private static final int[] LOWEST_NUMBER = {0, 0, 1, 1, 0};
        private static final int[] HIGHEST_NUMBER = {15, 19, 9, 99, 19};

        final char[] signs = new char[SIZE];
        int length;

        /** Where the scan stopped: at the first syntax error, or at the end of the text. */
        int position;
        /** Whether the scan found complete orders. */
        boolean complete;
        int orders;
        final int[] kinds = new int[MOST_ORDERS];
        final int[] numbers = new int[MOST_ORDERS];
        final int[] values = new int[MOST_ORDERS];

        boolean isFull() {
            return length >= SIZE;
        }

        void add(char sign) {
            if (!isFull()) {
                signs[length] = sign;
                length++;
            }
        }

        void empty() {
            length = 0;
        }

        void scan() {
            position = 0;
            orders = 0;
            complete = false;
            boolean more = true;
            for (int steps = 0; steps < SIZE && more; steps++) {
                boolean whole = scanOrder();
                complete = whole && position == length;
                more = whole && scanSign(';');
            }
        }

        private boolean scanOrder() {
            int kind = scanWord();
            if (kind == NONE) {
                return false;
            }
            int number = scanNumber(LOWEST_NUMBER[kind], HIGHEST_NUMBER[kind]);
            int value = 0;
            if (kind == PUT) {
                value = number != NONE && scanSign(':') ? scanNumber(0, VALUES - 1) : NONE;
            }
            if (number == NONE || value == NONE) {
                return false;
            }
            if (orders < MOST_ORDERS) {
                kinds[orders] = kind;
                numbers[orders] = number;
                values[orders] = value;
                orders++;
            }
            return true;
        }

        /** The kind of the order that begins here, NONE if no word stands here in full. */
        private int scanWord() {
            int furthest = 0;
            int found = NONE;
            for (int kind = 0; kind < KINDS; kind++) {
                int same = sameSigns(wordOf(kind));
                furthest = Math.max(furthest, same);
                if (same == wordOf(kind).length()) {
                    found = kind;
                }
            }
            position += furthest;
            return found;
        }

        private int sameSigns(String word) {
            int same = 0;
            while (same < word.length() && position + same < length
                    && signs[position + same] == word.charAt(same)) {
                same++;
            }
            return same;
        }

        private static String wordOf(int kind) {
            switch (kind) {
                case PUT:
                    return "put:";
                case LOCK:
                    return "lock:";
                case HEAT:
                    return "heat:";
                case PASS:
                    return "pass:";
                default:
                    return "fix:";
            }
        }

        private boolean scanSign(char sign) {
            if (position >= length || signs[position] != sign) {
                return false;
            }
            position++;
            return true;
        }

        /** Takes the digits that go on with a number from lowest to highest; NONE if there is none. */
        private int scanNumber(int lowest, int highest) {
            int number = NONE;
            while (position < length && signs[position] >= '0' && signs[position] <= '9') {
                int longer = Math.max(number, 0) * 10 + (signs[position] - '0');
                if (number == 0 || !isWithin(longer, lowest, highest)) {
                    break;
                }
                number = longer;
                position++;
            }
            return number;
        }
    }
}
