import java.util.Random;

/** Promises 1 to 26: long runs of calls, each answer compared with that of the model; the seeds are fixed. */
public final class ModelTest {
    private static final int CALLS = 512;
    private static final String[] PIECES = {"put:", "lock:", "heat:", "pass:", "fix:", ":", ";", "0", "1", "7", "9",
        "15", "16", "19", "63", "64", "p", "x", "put:3:5", "put:1:44", "put:15:63", "lock:3", "fix:0", "fix:2",
        "pass:99", "pass:1", "heat:5", "heat:6", ";put:2:2", ";fix:1", ";pass:2", ";heat:3"};

    private final FuseRows rows = new FuseRows();
    private final Model model = new Model();
    private final Random random;
    private final String run;
    /** How wild this run is: blows that make a mess of rows, locks that end the putting. */
    private final int mess;
    private int calls = 0;

    private ModelTest(long seed) {
        random = new Random(seed);
        run = "run " + seed + ": ";
        mess = random.nextInt(4);
    }

    public static void main(String[] args) {
        for (long seed = 1; seed <= 120; seed++) {
            new ModelTest(seed).walk();
        }
        Check.end();
    }

    private void walk() {
        while (calls < CALLS - 40) {
            if (random.nextInt(3) == 0) {
                look();
            } else {
                change();
            }
            if (random.nextInt(8) == 0) {
                due("digest()", rows.digest(), model.digest());
            }
        }
        due("digest() at the end", rows.digest(), model.digest());
    }

    private void due(String call, long got, long want) {
        calls++;
        Check.due(run + calls + ": " + call, got, want);
    }

    private int below(int bound) {
        return random.nextInt(bound);
    }

    /** A few keys come often, so that they have histories. */
    private int someKey() {
        return below(3) > 0 ? below(4) : below(16);
    }

    /** The low rows come often, so that what is written meets what is there. */
    private int someRow() {
        return below(3) > 0 ? below(6) : below(20);
    }

    private void change() {
        switch (below(16)) {
            case 0, 1, 2 -> {
                if (mess > 0) {
                    blow(someRow(), below(mess > 2 ? 16 : 14), 1 + below(mess > 1 ? 3 : 2));
                }
            }
            case 3, 4, 5, 6 -> put(someKey(), below(64));
            case 7 -> {
                if (below(3) == 0) {
                    drop(someKey());
                }
            }
            case 8 -> {
                if (below(8) == 0) {
                    lock(someRow());
                }
            }
            case 9 -> refresh(someRow());
            case 10 -> {
                int degrees = 1 + below(9);
                model.save();
                due("heat(" + degrees + ")", rows.heat(degrees), model.heat(degrees));
            }
            case 11, 12 -> pass(below(4) > 0 ? 1 + below(3) : 1 + below(99));
            case 13 -> set(below(4));
            case 14 -> write();
            default -> {
                for (int times = below(3); times > 0; times--) {
                    undo();
                }
            }
        }
    }

    private void blow(int row, int fuse, int charge) {
        String call = "blow(" + row + ", " + fuse + ", " + charge + ")";
        if (model.isLocked(row)) {
            calls += 3;
            Check.noState(run + call, rows, () -> rows.blow(row, fuse, charge));
            return;
        }
        model.save();
        model.blow(row, fuse, charge);
        due(call, rows.blow(row, fuse, charge), model.strength[row][fuse]);
    }

    private void put(int key, int value) {
        String call = "put(" + key + ", " + value + ")";
        if (model.nextRow() < 0) {
            calls += 3;
            Check.noState(run + call, rows, () -> rows.put(key, value));
            return;
        }
        model.save();
        due(call, rows.put(key, value), model.put(key, value)[0]);
    }

    private void drop(int key) {
        model.save();
        due("drop(" + key + ")", rows.drop(key), model.mark(key, -1, 3));
    }

    private void lock(int row) {
        if (model.isLocked(row)) {
            calls += 3;
            Check.noState(run + "lock(" + row + ")", rows, () -> rows.lock(row));
            return;
        }
        model.save();
        model.blow(row, 15, 3);
        due("lock(" + row + ")", rows.lock(row), model.locked());
    }

    private void refresh(int row) {
        if (model.isLocked(row)) {
            calls += 3;
            Check.noState(run + "refresh(" + row + ")", rows, () -> rows.refresh(row));
            return;
        }
        model.save();
        due("refresh(" + row + ")", rows.refresh(row), model.refresh(row));
    }

    private void pass(int ticks) {
        model.save();
        model.tick += ticks;
        due("pass(" + ticks + ")", rows.pass(ticks), model.tick);
    }

    private void set(int setting) {
        int value = setting == 0 || setting == 3 ? below(2) : 1 + below(3);
        model.save();
        due("set(" + setting + ", " + value + ")", rows.set(setting, value), model.settings[setting]);
        model.settings[setting] = value;
    }

    private void undo() {
        if (model.saved.isEmpty()) {
            calls += 3;
            Check.noState(run + "undo()", rows, () -> rows.undo());
            return;
        }
        model.undo();
        due("undo()", rows.undo(), model.saved.size());
    }

    /** Appends some pieces of texts, and then mostly runs or clears the buffer. */
    private void write() {
        for (int pieces = below(4); pieces >= 0; pieces--) {
            append(PIECES[below(PIECES.length)]);
        }
        due("firstError()", rows.firstError(), model.firstError());
        if (model.isComplete()) {
            model.save();
            due("run() of " + model.buffer, rows.run(), model.run());
        } else {
            calls += 3;
            Check.noArgument(run + "run() of " + model.buffer, rows, () -> rows.run());
            if (below(2) == 0) {
                due("clearBuffer()", rows.clearBuffer(), model.buffer.length());
                model.buffer.setLength(0);
            }
        }
    }

    private void append(String piece) {
        for (int i = 0; i < piece.length() && calls < CALLS - 20; i++) {
            char sign = piece.charAt(i);
            if (model.buffer.length() == 60) {
                calls += 3;
                Check.noState(run + "append", rows, () -> rows.append(sign));
                return;
            }
            model.buffer.append(sign);
            due("append(" + sign + ")", rows.append(sign), model.buffer.length());
        }
    }

    private void look() {
        int row = someRow();
        int fuse = below(16);
        int key = someKey();
        int value = below(64);
        int degrees = 1 + below(9);
        int what;
        switch (below(9)) {
            case 0 -> {
                due("fuse 0", rows.fuse(row, fuse, 0), model.strength[row][fuse]);
                due("fuse 1", rows.fuse(row, fuse, 1), model.once(row, fuse, model.tick));
                due("fuse 2", rows.fuse(row, fuse, 2), model.thrice(row, fuse, model.tick));
            }
            case 1 -> {
                what = below(9);
                due("row(" + row + ", " + what + ")", rows.row(row, what), model.row(row, what));
            }
            case 2 -> {
                what = below(6);
                due("key(" + key + ", " + what + ")", rows.key(key, what), model.key(key, what));
            }
            case 3 -> {
                what = below(5);
                due("history(" + key + ", " + what + ")", rows.history(key, what), model.history(key, what));
            }
            case 4 -> {
                what = below(13);
                due("count(" + what + ")", rows.count(what), model.count(what));
            }
            case 5 -> {
                for (what = 0; what < 5; what++) {
                    due("ifPut(" + key + ", " + value + ", " + what + ")",
                            rows.ifPut(key, value, what), model.ifPut(key, value, what));
                }
            }
            case 6 -> {
                for (what = 0; what < 3; what++) {
                    due("ifHeated(" + degrees + ", " + what + ")",
                            rows.ifHeated(degrees, what), model.ifHeated(degrees, what));
                }
            }
            case 7 -> {
                what = below(100);
                boolean thrice = below(2) == 0;
                due("ifRead(" + what + ", " + thrice + ")", rows.ifRead(what, thrice), model.ifRead(what, thrice));
            }
            default -> {
                due("worst()", rows.worst(), model.worst());
                calls += 3;
                Check.due(run + "sureShare()", rows.sureShare(), model.sureShare());
                what = below(4);
                due("setting(" + what + ")", rows.setting(what), model.settings[what]);
            }
        }
    }
}
