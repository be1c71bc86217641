import java.util.ArrayDeque;
import java.util.ArrayList;
import java.util.List;
import java.util.regex.Matcher;
import java.util.regex.Pattern;

/** The document in its plainest form, fuse by fuse, to be compared with the class. Arguments are right ones here. */
final class Model {
    private static final String ORDER =
            "(?:put:(?:[0-9]|1[0-5]):(?:[0-9]|[1-5][0-9]|6[0-3])|lock:(?:[0-9]|1[0-9])|heat:[1-9]"
            + "|pass:[1-9][0-9]?|fix:(?:[0-9]|1[0-9]))";
    private static final Pattern ORDERS = Pattern.compile(ORDER + "(?:;" + ORDER + ")*");

    int[][] strength = new int[20][16];
    int tick;
    int energy;
    int valuesPut;
    int[] settings = {1, 3, 1, 1};
    StringBuilder buffer = new StringBuilder();
    ArrayDeque<Model> saved = new ArrayDeque<>();

    Model copy() {
        Model copy = new Model();
        copy.take(this);
        return copy;
    }

    private void take(Model other) {
        for (int r = 0; r < 20; r++) {
            strength[r] = other.strength[r].clone();
        }
        tick = other.tick;
        energy = other.energy;
        valuesPut = other.valuesPut;
        settings = other.settings.clone();
    }

    void save() {
        saved.addLast(copy());
        if (saved.size() > 6) {
            saved.removeFirst();
        }
    }

    void undo() {
        take(saved.removeLast());
    }

    // ---- readings

    int once(int r, int f, int t) {
        return strength[r][f] > (t + r + f) % 3 ? 1 : 0;
    }

    int thrice(int r, int f, int t) {
        return once(r, f, t) + once(r, f, t + 1) + once(r, f, t + 2) >= 2 ? 1 : 0;
    }

    int bit(int r, int f, int t, boolean thrice) {
        return thrice ? thrice(r, f, t) : once(r, f, t);
    }

    int number(int r, int from, int to, int t, boolean thrice) {
        int sum = 0;
        int weight = 1;
        for (int f = from; f <= to; f++) {
            sum += weight * bit(r, f, t, thrice);
            weight *= 2;
        }
        return sum;
    }

    int zeros(int r, int t, boolean thrice) {
        int zeros = 0;
        for (int f = 0; f <= 9; f++) {
            zeros += 1 - bit(r, f, t, thrice);
        }
        return zeros;
    }

    int kind(int r, int t, boolean thrice) {
        if (number(r, 0, 15, t, thrice) == 0) {
            return 0;
        } else if (number(r, 0, 13, t, thrice) == 0) {
            return 1;
        } else if (bit(r, 14, t, thrice) == 1) {
            return 2;
        }
        return number(r, 10, 13, t, thrice) != zeros(r, t, thrice) ? 3 : 4;
    }

    boolean isThrice() {
        return settings[0] == 1;
    }

    boolean isLocked(int r) {
        return thrice(r, 15, tick) == 1;
    }

    /** The greatest row of an entry with the key, -1 without one. */
    int rowOfKey(int key, int t, boolean thrice) {
        int found = -1;
        for (int r = 0; r < 20; r++) {
            if (kind(r, t, thrice) == 4 && number(r, 0, 3, t, thrice) == key) {
                found = r;
            }
        }
        return found;
    }

    int value(int key, int t, boolean thrice) {
        int r = rowOfKey(key, t, thrice);
        return r < 0 ? -1 : number(r, 4, 9, t, thrice);
    }

    // ---- changes

    void blow(int r, int f, int charge) {
        if (isLocked(r)) {
            throw new AssertionError("a fuse of a locked row is blown");
        }
        strength[r][f] = Math.max(strength[r][f], charge);
        energy += charge;
    }

    int nextRow() {
        int last = -1;
        for (int r = 0; r < 20; r++) {
            if (kind(r, tick, isThrice()) != 0) {
                last = r;
            }
        }
        return last == 19 || isLocked(last + 1) ? -1 : last + 1;
    }

    /** Tries, kind of the row then, energy, value of the key then, marks. */
    int[] put(int key, int value) {
        int row = nextRow();
        int energyBefore = energy;
        List<Integer> wanted = new ArrayList<>();
        int zeros = 10;
        for (int f = 0; f <= 9; f++) {
            if ((f < 4 ? key >> f & 1 : value >> (f - 4) & 1) == 1) {
                wanted.add(f);
                zeros--;
            }
        }
        for (int f = 10; f <= 13; f++) {
            if ((zeros >> (f - 10) & 1) == 1) {
                wanted.add(f);
            }
        }
        for (int f : wanted) {
            blow(row, f, settings[1]);
        }
        int tries = 1;
        while (tries < settings[2] && !(kind(row, tick, isThrice()) == 4
                && number(row, 0, 3, tick, isThrice()) == key && number(row, 4, 9, tick, isThrice()) == value)) {
            for (int f : wanted) {
                if (bit(row, f, tick, isThrice()) == 0) {
                    blow(row, f, strength[row][f] + 1);
                }
            }
            tries++;
        }
        int marks = 0;
        if (settings[3] == 1) {
            marks = mark(key, row, settings[1]);
        }
        valuesPut++;
        return new int[] {tries, kind(row, tick, isThrice()), energy - energyBefore,
            value(key, tick, isThrice()), marks};
    }

    int mark(int key, int spared, int charge) {
        List<Integer> marked = new ArrayList<>();
        for (int r = 0; r < 20; r++) {
            if (r != spared && kind(r, tick, isThrice()) == 4 && number(r, 0, 3, tick, isThrice()) == key
                    && !isLocked(r)) {
                marked.add(r);
            }
        }
        for (int r : marked) {
            blow(r, 14, charge);
        }
        return marked.size();
    }

    int refresh(int r) {
        int stronger = 0;
        boolean[] blown = new boolean[16];
        for (int f = 0; f < 16; f++) {
            blown[f] = thrice(r, f, tick) == 1;
        }
        for (int f = 0; f < 16; f++) {
            if (blown[f]) {
                stronger += strength[r][f] < 3 ? 1 : 0;
                blow(r, f, 3);
            }
        }
        return stronger;
    }

    int heat(int degrees) {
        int weaker = 0;
        for (int r = 0; r < 20; r++) {
            for (int f = 0; f < 16; f++) {
                int s = strength[r][f];
                if (s == 1 && degrees >= 3 || s == 2 && degrees >= 6) {
                    strength[r][f] = s - 1;
                    weaker++;
                }
            }
        }
        return weaker;
    }

    int locked() {
        int locked = 0;
        for (int r = 0; r < 20; r++) {
            locked += isLocked(r) ? 1 : 0;
        }
        return locked;
    }

    // ---- texts

    int firstError() {
        for (int n = 1; n <= buffer.length(); n++) {
            Matcher matcher = ORDERS.matcher(buffer.substring(0, n));
            if (!matcher.matches() && !matcher.hitEnd()) {
                return n - 1;
            }
        }
        return buffer.length();
    }

    boolean isComplete() {
        return ORDERS.matcher(buffer).matches();
    }

    int run() {
        int done = 0;
        for (String order : buffer.toString().split(";")) {
            String[] parts = order.split(":");
            int n = Integer.parseInt(parts[1]);
            boolean refused = switch (parts[0]) {
                case "put" -> nextRow() < 0;
                case "lock", "fix" -> isLocked(n);
                case "pass" -> tick + n > 9999;
                default -> false;
            };
            if (refused) {
                break;
            }
            switch (parts[0]) {
                case "put" -> put(n, Integer.parseInt(parts[2]));
                case "lock" -> blow(n, 15, 3);
                case "fix" -> refresh(n);
                case "pass" -> tick += n;
                default -> heat(n);
            }
            done++;
        }
        buffer.setLength(0);
        return done;
    }

    // ---- looks

    int row(int r, int what) {
        boolean thrice = isThrice();
        int doubtful = 0;
        int sum = 0;
        for (int s : strength[r]) {
            doubtful += s == 1 || s == 2 ? 1 : 0;
            sum += s;
        }
        return switch (what) {
            case 0 -> number(r, 0, 15, tick, thrice);
            case 1 -> kind(r, tick, thrice);
            case 2 -> number(r, 0, 3, tick, thrice);
            case 3 -> number(r, 4, 9, tick, thrice);
            case 4 -> number(r, 10, 13, tick, thrice);
            case 5 -> zeros(r, tick, thrice);
            case 6 -> doubtful;
            case 7 -> isLocked(r) ? 1 : 0;
            default -> sum;
        };
    }

    /** The rows of a key, the greatest one first. */
    List<Integer> rowsOf(int key) {
        List<Integer> rows = new ArrayList<>();
        for (int r = 19; r >= 0; r--) {
            int kind = kind(r, tick, isThrice());
            if ((kind == 4 || kind == 2) && row(r, 2) == key) {
                rows.add(r);
            }
        }
        return rows;
    }

    int key(int key, int what) {
        List<Integer> rows = rowsOf(key);
        int entries = 0;
        int greatest = -1;
        for (int r : rows) {
            entries += row(r, 1) == 4 ? 1 : 0;
            greatest = Math.max(greatest, row(r, 3));
        }
        int steady = 0;
        for (int t = tick; t <= tick + 2; t++) {
            steady += value(key, t, false) == value(key, tick, true) ? 1 : 0;
        }
        return switch (what) {
            case 0 -> value(key, tick, isThrice());
            case 1 -> rowOfKey(key, tick, isThrice());
            case 2 -> entries;
            case 3 -> rows.size();
            case 4 -> greatest;
            default -> steady;
        };
    }

    int history(int key, int back) {
        List<Integer> rows = rowsOf(key);
        return back < rows.size() ? row(rows.get(back), 3) : -1;
    }

    int count(int what) {
        int number = 0;
        if (what >= 1 && what <= 5) {
            for (int r = 0; r < 20; r++) {
                number += row(r, 1) == what - 1 ? 1 : 0;
            }
            return number;
        }
        if (what == 7) {
            for (int r = 0; r < 20; r++) {
                number += row(r, 6);
            }
            return number;
        }
        if (what == 9) {
            for (int k = 0; k < 16; k++) {
                number += key(k, 0) >= 0 ? 1 : 0;
            }
            return number;
        }
        return switch (what) {
            case 0 -> tick;
            case 6 -> locked();
            case 8 -> energy;
            case 10 -> nextRow();
            case 11 -> valuesPut;
            default -> saved.size();
        };
    }

    // ---- what would be

    int ifPut(int key, int value, int what) {
        return nextRow() < 0 ? -1 : copy().put(key, value)[what];
    }

    int ifHeated(int degrees, int what) {
        Model heated = copy();
        int weaker = heated.heat(degrees);
        int kinds = 0;
        for (int r = 0; r < 20; r++) {
            kinds += heated.row(r, 1) != row(r, 1) ? 1 : 0;
        }
        int keys = 0;
        for (int k = 0; k < 16; k++) {
            keys += heated.value(k, tick, isThrice()) != value(k, tick, isThrice()) ? 1 : 0;
        }
        return what == 0 ? weaker : what == 1 ? kinds : keys;
    }

    int ifRead(int ticks, boolean thrice) {
        int keys = 0;
        for (int k = 0; k < 16; k++) {
            keys += value(k, tick + ticks, thrice) != value(k, tick, isThrice()) ? 1 : 0;
        }
        return keys;
    }

    int worst() {
        int worst = -1;
        int most = 0;
        for (int r = 19; r >= 0; r--) {
            if (row(r, 1) == 4 && !isLocked(r) && row(r, 6) > 0 && row(r, 6) >= most) {
                worst = r;
                most = row(r, 6);
            }
        }
        return worst;
    }

    double sureShare() {
        double sure = 0;
        double blown = 0;
        for (int[] row : strength) {
            for (int s : row) {
                sure += s == 3 ? 1 : 0;
                blown += s > 0 ? 1 : 0;
            }
        }
        return blown == 0 ? 1.0 : sure / blown;
    }

    long digest() {
        List<Long> values = new ArrayList<>();
        for (int what = 0; what <= 12; what++) {
            values.add((long) count(what));
        }
        for (int s : settings) {
            values.add((long) s);
        }
        for (int r = 0; r < 20; r++) {
            for (int what = 0; what <= 8; what++) {
                values.add((long) row(r, what));
            }
            for (int f = 0; f < 16; f++) {
                values.add((long) strength[r][f]);
            }
        }
        for (int k = 0; k < 16; k++) {
            for (int what = 0; what <= 5; what++) {
                values.add((long) key(k, what));
            }
            values.add((long) history(k, 0));
            values.add((long) history(k, 1));
        }
        for (int what = 0; what <= 4; what++) {
            values.add((long) ifPut(3, 5, what));
        }
        for (int what = 0; what <= 2; what++) {
            values.add((long) ifHeated(6, what));
        }
        values.add((long) ifRead(1, false));
        values.add((long) ifRead(1, true));
        values.add((long) worst());
        values.add(Double.doubleToLongBits(sureShare()));
        values.add((long) buffer.length());
        for (int i = 0; i < buffer.length(); i++) {
            values.add((long) buffer.charAt(i));
        }
        long hash = 2683;
        for (long v : values) {
            hash = 31 * hash + v;
        }
        return hash;
    }
}
