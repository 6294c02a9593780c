import java.math.BigInteger;
import java.util.ArrayDeque;
import java.util.ArrayList;
import java.util.List;
import java.util.regex.Matcher;
import java.util.regex.Pattern;

/** A second program of the same document, as plain as can be: it plays out what the class works out. */
final class Model {
    static final int NONE = -1000000, BAD = -1000001, STATE = -1000002, FULL = -1000003;

    static final class Soul {
        char sort;
        int guilt;
        int roofs;

        Soul(char sort, int guilt, int roofs) {
            this.sort = sort;
            this.guilt = guilt;
            this.roofs = roofs;
        }
    }

    static final class World {
        List<Soul> souls = new ArrayList<>();
        int force, calm, hour, place, lost;
        boolean up = true;

        World twin() {
            World w = new World();
            for (Soul s : souls) {
                w.souls.add(new Soul(s.sort, s.guilt, s.roofs));
            }
            w.force = force;
            w.calm = calm;
            w.hour = hour;
            w.place = place;
            w.lost = lost;
            w.up = up;
            return w;
        }

        World after(int hours) {
            World w = twin();
            for (int i = 0; i < hours; i++) {
                w.pass();
            }
            return w;
        }

        void pass() {
            Soul s = souls.get(place);
            int fifth = (force - force % 5) / 5;
            for (int i = 0; i < fifth && s.roofs > 0; i++) {
                s.roofs--;
                lost++;
            }
            if (up && place == souls.size() - 1 || !up && place == 0) {
                up = !up;
            } else {
                place += up ? 1 : -1;
            }
            force = force < calm ? 0 : force - calm;
            hour++;
        }

        int worth(Soul s) {
            if (s.sort == 'm') {
                return s.guilt;
            }
            if (s.sort == 'l') {
                return s.guilt >> 1;
            }
            if (s.sort == 'p') {
                int worth = s.guilt + (hour >> 2);
                return worth > 20 ? 20 : worth;
            }
            return (s.guilt >> 1) + (force >> 2) + (s.sort == 'o' ? 3 : 0);
        }

        void confess(int number) {
            Soul s = souls.get(number);
            if (s.guilt < (force >> 2)) {
                force += 2;
                if (force > 60) {
                    force = 60;
                }
            } else {
                force -= worth(s);
                if (force < 0) {
                    force = 0;
                }
            }
            s.guilt >>= 1;
        }

        int bareSouls() {
            return (int) souls.stream().filter(s -> s.roofs == 0).count();
        }
    }

    int[][] rows = new int[8][];
    int[] lanes = new int[8];
    StringBuilder tape = new StringBuilder();
    World world;
    World[] images = new World[2];
    ArrayDeque<World> acts = new ArrayDeque<>();
    List<Integer> trace = new ArrayList<>();
    int fault, status;

    private boolean noRow(int row) {
        return row < 0 || row > 7;
    }

    private boolean noSoul(int soul) {
        return world == null || soul < 0 || soul >= world.souls.size();
    }

    private int found(int number) {
        status = number;
        return -1000010 - number;
    }

    private int fine(int answer) {
        status = 0;
        return answer;
    }

    private boolean in(long i, long n, int row) {
        return i >= 0 && n >= 0 && i + n <= rows[row].length;
    }

    private void act() {
        acts.addLast(world.twin());
        if (acts.size() > 24) {
            acts.removeFirst();
        }
    }

    int row(int row, int lane, int n) {
        if (noRow(row) || lane < 0 || lane > 2 || n > 40) {
            return BAD;
        }
        if (n < 0) {
            return found(4);
        }
        rows[row] = new int[n];
        lanes[row] = lane;
        return fine(n);
    }

    int set(int row, int i, int v) {
        if (noRow(row)) {
            return BAD;
        }
        if (rows[row] == null) {
            return found(1);
        }
        if (!in(i, 1, row)) {
            return found(2);
        }
        int bits = 8 << lanes[row];
        rows[row][i] = v << 32 - bits >> 32 - bits;
        return fine(rows[row][i]);
    }

    int copy(int a, int i, int b, int j, int n) {
        if (noRow(a) || noRow(b)) {
            return BAD;
        }
        if (rows[a] == null || rows[b] == null) {
            return found(1);
        }
        if (lanes[a] != lanes[b]) {
            return found(5);
        }
        if (!in(i, n, a) || !in(j, n, b)) {
            return found(2);
        }
        int[] ahead = rows[a].clone();
        for (int k = 0; k < n; k++) {
            rows[b][j + k] = ahead[i + k];
        }
        return fine(n);
    }

    int drop(int row) {
        if (noRow(row)) {
            return BAD;
        }
        if (rows[row] == null) {
            return found(1);
        }
        int n = rows[row].length;
        rows[row] = null;
        return fine(n);
    }

    int feed(int letter) {
        if (letter < 0 || letter > 255) {
            return BAD;
        }
        if (tape.length() == 100) {
            return FULL;
        }
        tape.append((char) letter);
        return tape.length();
    }

    /** Cuts the tape into tokens, and looks at each by what the grammar has at its number. */
    int coast() {
        String text = tape.toString();
        tape.setLength(0);
        World read = new World();
        Matcher tokens = Pattern.compile("[0-9]+|[^0-9]", Pattern.DOTALL).matcher(text);
        int number = 0;
        int[] most = {0, 60, 0, 5, 0};
        int[] mostOfSouls = {0, 20, 0, 30, 0};
        String signs = "?#,#;";
        Soul soul = null;
        while (tokens.find()) {
            String token = tokens.group();
            int part = number % 5;
            boolean law = number < 5;
            boolean figures = token.charAt(0) >= '0' && token.charAt(0) <= '9';
            int wrong = 0;
            if (part == 0) {
                if (token.length() > 1 || (law ? "s" : "mlpwo").indexOf(token) < 0) {
                    wrong = 1;
                } else if (!law && read.souls.size() == 7) {
                    wrong = 3;
                }
            } else if (signs.charAt(part) == '#') {
                if (!figures || token.length() > 2) {
                    wrong = 1;
                } else if (Integer.parseInt(token) > (law ? most : mostOfSouls)[part]) {
                    wrong = 2;
                }
            } else if (token.charAt(0) != signs.charAt(part)) {
                wrong = 1;
            }
            if (wrong != 0) {
                fault = wrong;
                return -1000100 - tokens.start();
            }
            if (!law && part == 0) {
                soul = new Soul(token.charAt(0), 0, 0);
            } else if (part == 1) {
                if (law) {
                    read.force = Integer.parseInt(token);
                } else {
                    soul.guilt = Integer.parseInt(token);
                }
            } else if (part == 3) {
                if (law) {
                    read.calm = Integer.parseInt(token);
                } else {
                    soul.roofs = Integer.parseInt(token);
                }
            } else if (part == 4 && !law) {
                read.souls.add(soul);
            }
            number++;
        }
        if (number % 5 != 0 || number < 10) {
            fault = 1;
            return -1000100 - text.length();
        }
        world = read;
        acts.clear();
        return world.souls.size();
    }

    int fault() {
        return fault;
    }

    int hours(int n) {
        if (world == null) {
            return STATE;
        }
        if (n < 1 || n > 24) {
            return BAD;
        }
        if (world.hour + n > 9999) {
            return FULL;
        }
        for (int i = 0; i < n; i++) {
            act();
            world.pass();
        }
        return world.force;
    }

    int confess(int soul) {
        if (noSoul(soul)) {
            return BAD;
        }
        act();
        world.confess(soul);
        return world.force;
    }

    int mend(int soul, int n) {
        if (noSoul(soul) || n < 1 || n > 30) {
            return BAD;
        }
        act();
        Soul s = world.souls.get(soul);
        for (int i = 0; i < n && s.roofs < 30; i++) {
            s.roofs++;
        }
        return s.roofs;
    }

    int raise(int force, int place) {
        if (world == null) {
            return STATE;
        }
        if (force < 0 || force > 60 || noSoul(place)) {
            return BAD;
        }
        act();
        int was = world.force;
        world.force = force;
        world.place = place;
        return was;
    }

    int veer() {
        if (world == null) {
            return STATE;
        }
        act();
        world.up = !world.up;
        return world.up ? 1 : 0;
    }

    int undo() {
        if (acts.isEmpty()) {
            return STATE;
        }
        world = acts.removeLast();
        return acts.size();
    }

    int soul(int soul, int what) {
        if (noSoul(soul) || what < 0 || what > 3) {
            return BAD;
        }
        Soul s = world.souls.get(soul);
        World then = world.twin();
        then.confess(soul);
        return new int[] {s.guilt, s.roofs, world.worth(s), world.force - then.force}[what];
    }

    int roofs(int soul, int d) {
        return noSoul(soul) || d < 0 || d > 60 ? BAD : world.after(d).souls.get(soul).roofs;
    }

    int later(int d, int what) {
        if (world == null) {
            return STATE;
        }
        if (d < 0 || d > 60 || what < 0 || what > 2) {
            return BAD;
        }
        World w = world.after(d);
        return new int[] {w.force, w.place, w.lost}[what];
    }

    int still() {
        if (world == null) {
            return STATE;
        }
        for (int d = 0; d <= 60; d++) {
            if (world.after(d).force == 0) {
                return d;
            }
        }
        return NONE;
    }

    int bare(int what) {
        if (world == null) {
            return STATE;
        }
        if (what < 0 || what > 1) {
            return BAD;
        }
        for (int d = 0; d <= 60; d++) {
            World w = world.after(d);
            for (int s = 0; s < w.souls.size(); s++) {
                if (w.souls.get(s).roofs == 0) {
                    return what == 0 ? s : d;
                }
            }
        }
        return NONE;
    }

    private World after(List<Integer> confessions) {
        World w = world.twin();
        confessions.forEach(w::confess);
        return w;
    }

    private static List<Integer> members(int set) {
        List<Integer> list = new ArrayList<>();
        for (int s = 0; s < 7; s++) {
            if ((set >> s) % 2 == 1) {
                list.add(s);
            }
        }
        return list;
    }

    int list(int w, int what) {
        if (world == null) {
            return STATE;
        }
        if (w < 0 || w > 60 || what < 0 || what > 1) {
            return BAD;
        }
        for (int many = 0; many <= world.souls.size(); many++) {
            for (int set = 0; set < 1 << world.souls.size(); set++) {
                List<Integer> list = members(set);
                if (list.size() == many && after(list).force <= w) {
                    return what == 0 ? many : set;
                }
            }
        }
        return NONE;
    }

    /** All rows of a length, by numbers. */
    private void allRows(List<Integer> row, int length, List<List<Integer>> into) {
        if (row.size() == length) {
            into.add(new ArrayList<>(row));
            return;
        }
        for (int s = 0; s < world.souls.size(); s++) {
            if (!row.contains(s)) {
                row.add(s);
                allRows(row, length, into);
                row.remove(row.size() - 1);
            }
        }
    }

    int order(int k) {
        if (world == null) {
            return STATE;
        }
        if (k < -1) {
            return BAD;
        }
        int least = 99;
        List<Integer> best = null;
        for (int length = 0; length <= world.souls.size(); length++) {
            List<List<Integer>> rowsOfLength = new ArrayList<>();
            allRows(new ArrayList<>(), length, rowsOfLength);
            for (List<Integer> row : rowsOfLength) {
                int force = after(row).force;
                if (force < least) {
                    least = force;
                    best = row;
                }
            }
        }
        if (k == -1) {
            return least;
        }
        return k < best.size() ? best.get(k) : NONE;
    }

    int named(int n, int what) {
        if (world == null) {
            return STATE;
        }
        if (n < 1 || n > 30 || what < 0 || what > 1) {
            return BAD;
        }
        int least = world.after(n).lost - world.lost;
        int who = NONE;
        for (int s = 0; s < world.souls.size(); s++) {
            int lost = after(List.of(s)).after(n).lost - world.lost;
            if (lost < least) {
                least = lost;
                who = s;
            }
        }
        return who == NONE ? NONE : what == 0 ? who : least;
    }

    int premium(int soul, int n) {
        if (noSoul(soul) || n < 0 || n > 999) {
            return BAD;
        }
        int all = world.souls.stream().mapToInt(s -> s.roofs).sum();
        if (all == 0) {
            return 0;
        }
        int[] parts = world.souls.stream().mapToInt(s -> n * s.roofs / all).toArray();
        int over = n;
        for (int part : parts) {
            over -= part;
        }
        for (int s = 0; over > 0; s++) {
            if (world.souls.get(s).roofs > 0) {
                parts[s]++;
                over--;
            }
        }
        return parts[soul];
    }

    int fits(int soul, int row, int i, int n, int what) {
        if (noSoul(soul) || noRow(row) || n < 1 || n > 12 || what < 0 || what > 4) {
            return BAD;
        }
        if (rows[row] == null) {
            return found(1);
        }
        if (!in(i, n, row)) {
            return found(2);
        }
        int[] values = {61, 61, world.souls.size(), 2, 6};
        List<Integer> fitting = new ArrayList<>();
        for (int value = 0; value < values[what]; value++) {
            World w = world.twin();
            switch (what) {
                case 2: w.place = value; break;
                case 3: w.up = value == 1; break;
                case 4: w.calm = value; break;
                default: w.force = value; break;
            }
            boolean so = true;
            for (int k = 1; k <= n; k++) {
                so &= w.after(k).souls.get(soul).roofs == rows[row][i + k - 1];
            }
            if (so) {
                fitting.add(value);
            }
        }
        if (what == 0) {
            return fine(fitting.size());
        }
        if (what == 1) {
            return fine(fitting.isEmpty() ? NONE : fitting.get(0));
        }
        return fine(fitting.stream().mapToInt(v -> 1 << v).sum());
    }

    int dropped(int soul, int x, int what) {
        if (noSoul(soul) || x < -2 || x > 60 || what < 0 || what > 1) {
            return BAD;
        }
        int bits = 0;
        for (int value = what == 0 ? 1 : 0; value <= (what == 0 ? 5 : 20); value++) {
            World w = world.twin();
            if (what == 0) {
                w.souls.get(soul).sort = "?mlpwo".charAt(value);
            } else {
                w.souls.get(soul).guilt = value;
            }
            w.confess(soul);
            if (world.force - w.force == x) {
                bits += 1 << value;
            }
        }
        return bits;
    }

    int owning(int w, int c, int what) {
        if (world == null) {
            return STATE;
        }
        if (w < 0 || w > 60 || c < 0 || c > 10 || what < 0 || what > 1) {
            return BAD;
        }
        int n = world.souls.size();
        BigInteger above = BigInteger.ZERO;
        for (int set = 0; set < 1 << n; set++) {
            int many = members(set).size();
            if (after(members(set)).force <= w) {
                above = above.add(BigInteger.valueOf(c).pow(many).multiply(BigInteger.valueOf(10 - c).pow(n - many)));
            }
        }
        BigInteger below = BigInteger.TEN.pow(n);
        BigInteger common = above.gcd(below);
        return (what == 0 ? above : below).divide(common).intValueExact();
    }

    int drawn(int n, int seed, int what) {
        if (world == null) {
            return STATE;
        }
        if (n < 0 || n > 60 || seed < 1 || seed > 999999 || what < 0 || what > 1) {
            return BAD;
        }
        World w = world.twin();
        BigInteger x = BigInteger.valueOf(seed);
        for (int i = 0; i < n; i++) {
            x = x.multiply(BigInteger.valueOf(16807)).mod(BigInteger.valueOf(2147483647));
            int drawn = x.intValueExact();
            if (w.force == 0) {
                w.force = drawn % 61;
                w.place = drawn % w.souls.size();
            } else if (drawn % 3 == 0) {
                w.confess(drawn % w.souls.size());
            }
            w.pass();
        }
        return what == 0 ? w.lost - world.lost : w.bareSouls();
    }

    int image(int k) {
        if (k < 0 || k > 1) {
            return BAD;
        }
        if (world == null) {
            return STATE;
        }
        images[k] = world.twin();
        return 1;
    }

    int restore(int k) {
        if (k < 0 || k > 1) {
            return BAD;
        }
        if (images[k] == null) {
            return STATE;
        }
        world = images[k].twin();
        acts.clear();
        return 1;
    }

    int kind(int soul) {
        return noSoul(soul) ? BAD : "?mlpwo".indexOf(world.souls.get(soul).sort);
    }

    int as(int soul, int kind) {
        if (noSoul(soul) || kind < 0 || kind > 5) {
            return BAD;
        }
        String is = new String[] {"", "01", "012", "013", "04", "045"}[kind(soul)];
        return is.contains("" + kind) ? fine(soul) : found(3);
    }

    int ask(int soul, int what) {
        if (noSoul(soul) || what < 0 || what > 1) {
            return BAD;
        }
        trace.clear();
        Asked asked = askedOf(soul);
        return what == 0 ? asked.size() : asked.mark();
    }

    private Asked askedOf(int soul) {
        switch (world.souls.get(soul).sort) {
            case 'm': return new Man(soul);
            case 'l': return new Liar(soul);
            case 'p': return new Parson(soul);
            case 'w': return new Woman(soul);
            default: return new Old(soul);
        }
    }

    /** Here the machine's own choice among overriding methods says which body begins. */
    private class Asked {
        final int number;

        Asked(int number) {
            this.number = number;
        }

        int size() {
            trace.add(10);
            return world.souls.get(number).roofs;
        }

        int mark() {
            trace.add(20);
            return number;
        }
    }

    private class Man extends Asked {
        Man(int number) {
            super(number);
        }

        @Override int size() {
            trace.add(11);
            return super.size() + mark();
        }

        @Override int mark() {
            trace.add(21);
            return super.mark() + world.souls.get(number).guilt;
        }
    }

    private class Liar extends Man {
        Liar(int number) {
            super(number);
        }

        @Override int size() {
            trace.add(12);
            return 0 - super.size();
        }

        @Override int mark() {
            trace.add(24);
            return 2 * super.mark();
        }
    }

    private class Parson extends Man {
        Parson(int number) {
            super(number);
        }

        @Override int mark() {
            trace.add(22);
            return super.mark() - 1000;
        }
    }

    private class Woman extends Asked {
        Woman(int number) {
            super(number);
        }

        @Override int size() {
            trace.add(13);
            return super.size() - 100;
        }

        @Override int mark() {
            trace.add(23);
            return super.mark() - size();
        }
    }

    private class Old extends Woman {
        Old(int number) {
            super(number);
        }

        @Override int size() {
            trace.add(14);
            return 2 * super.size();
        }
    }

    int trace(int i) {
        return i < 0 || i > 15 || i >= trace.size() ? NONE : trace.get(i);
    }

    int count(int what) {
        if (what < 0 || what > 9) {
            return BAD;
        }
        if (what == 0) {
            int many = 0;
            for (int[] row : rows) {
                many += row == null ? 0 : 1;
            }
            return many;
        }
        if (what == 8) {
            return acts.size();
        }
        if (what == 9) {
            return tape.length();
        }
        if (world == null) {
            return 0;
        }
        return new int[] {0, world.souls.size(), world.hour, world.force, world.place, world.up ? 1 : 0,
            world.calm, world.lost}[what];
    }

    int status() {
        return status;
    }
}
