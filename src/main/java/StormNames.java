import java.util.Arrays;

/**
 * A wrecking coast, the souls on it, and the storm that is named after one of them.
 *
 * <p>All that a call needs is made with the object and used again: no call makes an object.
 */
public final class StormNames {
    public static final int NONE = -1000000, BAD = -1000001, STATE = -1000002, FULL = -1000003;

    private static final int FINDINGS = -1000010, FAULTS = -1000100;
    private static final int NULL = 1, PLACE = 2, KIND = 3, SIZE = 4, STORE = 5;
    private static final int ROWS = 8, LANES = 3, ITEMS = 40;
    private static final int BYTES = 100, SOULS = 7, KINDS = 6, ACTS = 24, IMAGES = 2, TRACE = 16;
    private static final int MOST_GUILT = 20, MOST_ROOFS = 30, MOST_FORCE = 60, MOST_CALM = 5;
    private static final int MOST_LOST = 99999, LAST_HOUR = 9999, FORETOLD = 60;
    private static final int MAN = 1, LIAR = 2, PARSON = 3, WOMAN = 4, OLD = 5;

    private final Rows rows = new Rows();
    private final Tape tape = new Tape();
    private final Coast now = new Coast();
    private final Coast trial = new Coast();
    private final Coast firstImage = new Coast();
    private final Coast secondImage = new Coast();
    private final Acts acts = new Acts();
    private final Order bestOrder = new Order();
    private final Bodies bodies = new Bodies();
    private int finding;

    /** No coast: it has no souls until a text is read. */
    public StormNames() {
    }

    // ---- rows

    public int row(int row, int lane, int n) {
        if (outside(row, 0, ROWS - 1) || outside(lane, 0, LANES - 1) || n > ITEMS) {
            return BAD;
        }
        if (n < 0) {
            return found(SIZE);
        }
        rows.begin(row, lane, n);
        return fine(n);
    }

    public int set(int row, int i, int v) {
        if (outside(row, 0, ROWS - 1)) {
            return BAD;
        }
        if (!rows.here[row]) {
            return found(NULL);
        }
        if (!rows.spans(row, i, 1)) {
            return found(PLACE);
        }
        rows.items[row][i] = rows.cut(row, v);
        return fine(rows.items[row][i]);
    }

    public int copy(int a, int i, int b, int j, int n) {
        if (outside(a, 0, ROWS - 1) || outside(b, 0, ROWS - 1)) {
            return BAD;
        }
        if (!rows.here[a] || !rows.here[b]) {
            return found(NULL);
        }
        if (rows.lanes[a] != rows.lanes[b]) {
            return found(STORE);
        }
        if (!rows.spans(a, i, n) || !rows.spans(b, j, n)) {
            return found(PLACE);
        }
        System.arraycopy(rows.items[a], i, rows.items[b], j, n);
        return fine(n);
    }

    public int drop(int row) {
        if (outside(row, 0, ROWS - 1)) {
            return BAD;
        }
        if (!rows.here[row]) {
            return found(NULL);
        }
        rows.here[row] = false;
        return fine(rows.sizes[row]);
    }

    // ---- coasts, acts

    public int feed(int letter) {
        if (outside(letter, 0, 255)) {
            return BAD;
        }
        if (tape.length >= BYTES) {
            return FULL;
        }
        return tape.add(letter);
    }

    public int coast() {
        boolean read = tape.readInto(trial);
        tape.length = 0;
        if (!read) {
            return FAULTS - tape.at;
        }
        now.take(trial);
        acts.forget();
        return now.souls;
    }

    public int fault() {
        return tape.latestFault;
    }

    public int hours(int n) {
        if (now.souls == 0) {
            return STATE;
        }
        if (outside(n, 1, 24)) {
            return BAD;
        }
        if (now.hour + n > LAST_HOUR) {
            return FULL;
        }
        for (int i = 0; i < n; i++) {
            acts.keep(now);
            now.passHour();
        }
        return now.force;
    }

    public int confess(int soul) {
        if (noSoul(soul)) {
            return BAD;
        }
        acts.keep(now);
        now.ownUp(soul);
        return now.force;
    }

    public int mend(int soul, int n) {
        if (noSoul(soul) || outside(n, 1, MOST_ROOFS)) {
            return BAD;
        }
        acts.keep(now);
        now.roofs[soul] = Math.min(MOST_ROOFS, now.roofs[soul] + n);
        return now.roofs[soul];
    }

    public int raise(int force, int place) {
        if (now.souls == 0) {
            return STATE;
        }
        if (outside(force, 0, MOST_FORCE) || noSoul(place)) {
            return BAD;
        }
        acts.keep(now);
        int before = now.force;
        now.force = force;
        now.place = place;
        return before;
    }

    public int veer() {
        if (now.souls == 0) {
            return STATE;
        }
        acts.keep(now);
        now.way = 1 - now.way;
        return now.way;
    }

    public int undo() {
        if (acts.many == 0) {
            return STATE;
        }
        acts.giveBack(now);
        return acts.many;
    }

    public int soul(int soul, int what) {
        if (noSoul(soul)) {
            return BAD;
        }
        switch (what) {
            case 0:
                return now.guilts[soul];
            case 1:
                return now.roofs[soul];
            case 2:
                return now.worth(now.kinds[soul], now.guilts[soul], now.force);
            case 3:
                return now.fall(now.kinds[soul], now.guilts[soul]);
            default:
                return BAD;
        }
    }

    // ---- foretold

    public int roofs(int soul, int d) {
        if (noSoul(soul) || outside(d, 0, FORETOLD)) {
            return BAD;
        }
        foretell(d);
        return trial.roofs[soul];
    }

    public int later(int d, int what) {
        if (now.souls == 0) {
            return STATE;
        }
        if (outside(d, 0, FORETOLD) || outside(what, 0, 2)) {
            return BAD;
        }
        foretell(d);
        if (what == 0) {
            return trial.force;
        }
        return what == 1 ? trial.place : trial.lost;
    }

    public int still() {
        if (now.souls == 0) {
            return STATE;
        }
        foretell(0);
        for (int d = 0; d <= FORETOLD; d++) {
            if (trial.force == 0) {
                return d;
            }
            trial.passHour();
        }
        return NONE;
    }

    public int bare(int what) {
        if (now.souls == 0) {
            return STATE;
        }
        if (outside(what, 0, 1)) {
            return BAD;
        }
        foretell(0);
        for (int d = 0; d <= FORETOLD; d++) {
            int first = trial.firstBare();
            if (first != NONE) {
                return what == 0 ? first : d;
            }
            trial.passHour();
        }
        return NONE;
    }

    public int list(int w, int what) {
        if (now.souls == 0) {
            return STATE;
        }
        if (outside(w, 0, MOST_FORCE) || outside(what, 0, 1)) {
            return BAD;
        }
        int fewest = NONE;
        int which = NONE;
        for (int set = 0; set < 1 << now.souls; set++) {
            int many = Integer.bitCount(set);
            if ((fewest == NONE || many < fewest) && now.forceBehindAll(set) <= w) {
                fewest = many;
                which = set;
            }
        }
        return what == 0 ? fewest : which;
    }

    public int order(int k) {
        if (now.souls == 0) {
            return STATE;
        }
        if (k < -1) {
            return BAD;
        }
        bestOrder.seek(now);
        if (k == -1) {
            return bestOrder.leastForce;
        }
        return k < bestOrder.length ? bestOrder.best[k] : NONE;
    }

    public int named(int n, int what) {
        if (now.souls == 0) {
            return STATE;
        }
        if (outside(n, 1, 30) || outside(what, 0, 1)) {
            return BAD;
        }
        int least = lostIn(n, NONE);
        int who = NONE;
        for (int s = 0; s < now.souls; s++) {
            int lost = lostIn(n, s);
            if (lost < least) {
                least = lost;
                who = s;
            }
        }
        return what == 0 || who == NONE ? who : least;
    }

    public int premium(int soul, int n) {
        if (noSoul(soul) || outside(n, 0, 999)) {
            return BAD;
        }
        int all = now.allRoofs();
        if (all == 0 || now.roofs[soul] == 0) {
            return 0;
        }
        int over = n;
        int aheadWithRoofs = 0;
        for (int s = 0; s < now.souls; s++) {
            over -= n * now.roofs[s] / all;
            if (s < soul && now.roofs[s] > 0) {
                aheadWithRoofs++;
            }
        }
        return n * now.roofs[soul] / all + (aheadWithRoofs < over ? 1 : 0);
    }

    public int fits(int soul, int row, int i, int n, int what) {
        if (noSoul(soul) || outside(row, 0, ROWS - 1) || outside(n, 1, 12) || outside(what, 0, 4)) {
            return BAD;
        }
        if (!rows.here[row]) {
            return found(NULL);
        }
        if (!rows.spans(row, i, n)) {
            return found(PLACE);
        }
        long values = fitting(soul, row, i, n, what);
        if (what > 1) {
            return fine((int) values);
        }
        return fine(what == 0 ? Long.bitCount(values) : lowestBit(values));
    }

    public int dropped(int soul, int x, int what) {
        if (noSoul(soul) || outside(x, -2, MOST_FORCE) || outside(what, 0, 1)) {
            return BAD;
        }
        int bits = 0;
        if (what == 0) {
            for (int kind = MAN; kind < KINDS; kind++) {
                bits |= now.fall(kind, now.guilts[soul]) == x ? 1 << kind : 0;
            }
            return bits;
        }
        for (int guilt = 0; guilt <= MOST_GUILT; guilt++) {
            bits |= now.fall(now.kinds[soul], guilt) == x ? 1 << guilt : 0;
        }
        return bits;
    }

    public int owning(int w, int c, int what) {
        if (now.souls == 0) {
            return STATE;
        }
        if (outside(w, 0, MOST_FORCE) || outside(c, 0, 10) || outside(what, 0, 1)) {
            return BAD;
        }
        int below = 1;
        for (int s = 0; s < now.souls; s++) {
            below *= 10;
        }
        int above = waysDown(now, 0, now.force, w, c);
        int common = commonDivisor(above, below);
        return what == 0 ? above / common : below / common;
    }

    public int drawn(int n, int seed, int what) {
        if (now.souls == 0) {
            return STATE;
        }
        if (outside(n, 0, FORETOLD) || outside(seed, 1, 999999) || outside(what, 0, 1)) {
            return BAD;
        }
        foretell(0);
        trial.lost = 0;
        long x = seed;
        for (int i = 0; i < n; i++) {
            x = x * 16807 % 2147483647;
            trial.meet((int) x);
            trial.passHour();
        }
        return what == 0 ? trial.lost : trial.allBare();
    }

    public int image(int k) {
        if (outside(k, 0, IMAGES - 1)) {
            return BAD;
        }
        if (now.souls == 0) {
            return STATE;
        }
        imageOf(k).take(now);
        return 1;
    }

    public int restore(int k) {
        if (outside(k, 0, IMAGES - 1)) {
            return BAD;
        }
        if (imageOf(k).souls == 0) {
            return STATE;
        }
        now.take(imageOf(k));
        acts.forget();
        return 1;
    }

    // ---- asked

    public int kind(int soul) {
        return noSoul(soul) ? BAD : now.kinds[soul];
    }

    public int as(int soul, int kind) {
        if (noSoul(soul) || outside(kind, 0, KINDS - 1)) {
            return BAD;
        }
        return isOne(now.kinds[soul], kind) ? fine(soul) : found(KIND);
    }

    public int ask(int soul, int what) {
        if (noSoul(soul) || outside(what, 0, 1)) {
            return BAD;
        }
        return bodies.answer(now, soul, what);
    }

    public int trace(int i) {
        return outside(i, 0, bodies.left - 1) ? NONE : bodies.numbers[i];
    }

    public int count(int what) {
        switch (what) {
            case 0:
                return rows.many();
            case 1:
                return now.souls;
            case 2:
                return now.hour;
            case 3:
                return now.force;
            case 4:
                return now.place;
            case 5:
                return now.way;
            case 6:
                return now.calm;
            case 7:
                return now.lost;
            case 8:
                return acts.many;
            case 9:
                return tape.length;
            default:
                return BAD;
        }
    }

    public int status() {
        return finding;
    }

    // ---- what the calls share

    private static boolean outside(int number, int least, int most) {
        return number < least || number > most;
    }

    /** Places have the numbers of their souls, so this tells of a place, too. */
    private boolean noSoul(int number) {
        return outside(number, 0, now.souls - 1);
    }

    private int found(int number) {
        finding = number;
        return FINDINGS - number;
    }

    private int fine(int answer) {
        finding = 0;
        return answer;
    }

    private Coast imageOf(int k) {
        return k == 0 ? firstImage : secondImage;
    }

    /** The trial becomes the coast as it will be d hours on. */
    private void foretell(int d) {
        trial.take(now);
        for (int i = 0; i < d; i++) {
            trial.passHour();
        }
    }

    /** What is lost in the next n hours alone, behind a confession now (NONE: without one). */
    private int lostIn(int n, int confessing) {
        trial.take(now);
        trial.lost = 0;
        if (confessing != NONE) {
            trial.ownUp(confessing);
        }
        for (int i = 0; i < n; i++) {
            trial.passHour();
        }
        return trial.lost;
    }

    /** The values by which a soul's roofs come to be as the row tells, as bits; all else is as now. */
    private long fitting(int soul, int row, int i, int n, int what) {
        long bits = 0;
        int values = valuesOf(what);
        for (int value = 0; value < values; value++) {
            trial.take(now);
            changeTrial(what, value);
            if (trialTells(soul, row, i, n)) {
                bits |= 1L << value;
            }
        }
        return bits;
    }

    private int valuesOf(int what) {
        switch (what) {
            case 2:
                return now.souls;
            case 3:
                return 2;
            case 4:
                return MOST_CALM + 1;
            default:
                return MOST_FORCE + 1;
        }
    }

    private void changeTrial(int what, int value) {
        switch (what) {
            case 2:
                trial.place = value;
                break;
            case 3:
                trial.way = value;
                break;
            case 4:
                trial.calm = value;
                break;
            default:
                trial.force = value;
                break;
        }
    }

    private boolean trialTells(int soul, int row, int i, int n) {
        for (int k = 0; k < n; k++) {
            trial.passHour();
            if (trial.roofs[soul] != rows.items[row][i + k]) {
                return false;
            }
        }
        return true;
    }

    private static int lowestBit(long bits) {
        for (int bit = 0; bit < 64; bit++) {
            if ((bits >> bit & 1) != 0) {
                return bit;
            }
        }
        return NONE;
    }

    /** Of all draws from soul s on (ten each), how many bring the force down to w or less. */
    private static int waysDown(Coast coast, int s, int force, int w, int c) {
        if (s >= coast.souls) {
            return force <= w ? 1 : 0;
        }
        return c * waysDown(coast, s + 1, coast.forceBehind(s, force), w, c)
            + (10 - c) * waysDown(coast, s + 1, force, w, c);
    }

    /** Never 0, so that it can divide. */
    private static int commonDivisor(int a, int b) {
        int x = a;
        int y = b;
        for (int i = 0; i < 64 && y != 0; i++) {
            int rest = x % y;
            x = y;
            y = rest;
        }
        return Math.max(1, x);
    }

    private static boolean isOne(int kind, int asked) {
        int up = kind;
        for (int i = 0; i < KINDS && up > 0 && up != asked; i++) {
            up = kindAbove(up);
        }
        return up == asked;
    }

    private static int kindAbove(int kind) {
        switch (kind) {
            case LIAR:
            case PARSON:
                return MAN;
            case OLD:
                return WOMAN;
            default:
                return 0;
        }
    }

    /** The rows, each with room for all the items that one may have. */
    private static final class Rows {
        final boolean[] here = new boolean[ROWS];
        final int[] lanes = new int[ROWS];
        final int[] sizes = new int[ROWS];
        final int[][] items = new int[ROWS][ITEMS];

        void begin(int row, int lane, int n) {
            here[row] = true;
            lanes[row] = lane;
            sizes[row] = n;
            Arrays.fill(items[row], 0);
        }

        /** Whether the row has n items from i on; told without a sum that could wrap around. */
        boolean spans(int row, int i, int n) {
            return i >= 0 && n >= 0 && i <= sizes[row] && n <= sizes[row] - i;
        }

        int cut(int row, int v) {
            if (lanes[row] == 0) {
                return (byte) v;
            }
            return lanes[row] == 1 ? (short) v : v;
        }

        int many() {
            int many = 0;
            for (int row = 0; row < ROWS; row++) {
                many += here[row] ? 1 : 0;
            }
            return many;
        }
    }

    /** A coast with its souls and its storm; none, if there are no souls. */
    private static final class Coast {
        final int[] kinds = new int[SOULS];
        final int[] guilts = new int[SOULS];
        final int[] roofs = new int[SOULS];
        int souls;
        int force;
        int calm;
        int hour;
        int place;
        int way;
        int lost;

        void take(Coast other) {
            System.arraycopy(other.kinds, 0, kinds, 0, SOULS);
            System.arraycopy(other.guilts, 0, guilts, 0, SOULS);
            System.arraycopy(other.roofs, 0, roofs, 0, SOULS);
            souls = other.souls;
            force = other.force;
            calm = other.calm;
            hour = other.hour;
            place = other.place;
            way = other.way;
            lost = other.lost;
        }

        void begin(int firstForce, int firstCalm) {
            souls = 0;
            force = firstForce;
            calm = firstCalm;
            hour = 0;
            place = 0;
            way = 1;
            lost = 0;
        }

        void addSoul(int kind, int guilt, int roofsOwned) {
            if (souls >= SOULS) {
                return;
            }
            kinds[souls] = kind;
            guilts[souls] = guilt;
            roofs[souls] = roofsOwned;
            souls++;
        }

        int worth(int kind, int guilt, int ofForce) {
            switch (kind) {
                case MAN:
                    return guilt;
                case LIAR:
                    return guilt / 2;
                case PARSON:
                    return Math.min(20, guilt + hour / 4);
                case WOMAN:
                    return guilt / 2 + ofForce / 4;
                case OLD:
                    return guilt / 2 + ofForce / 4 + 3;
                default:
                    return 0;
            }
        }

        /** The force behind a confession of a soul of such a kind and guilt, made against a force. */
        int forceBy(int kind, int guilt, int before) {
            if (guilt >= before / 4) {
                return Math.max(0, before - worth(kind, guilt, before));
            }
            return Math.min(MOST_FORCE, before + 2);
        }

        int fall(int kind, int guilt) {
            return force - forceBy(kind, guilt, force);
        }

        int forceBehind(int s, int before) {
            return forceBy(kinds[s], guilts[s], before);
        }

        int forceBehindAll(int set) {
            int then = force;
            for (int s = 0; s < souls; s++) {
                if ((set >> s & 1) != 0) {
                    then = forceBehind(s, then);
                }
            }
            return then;
        }

        void ownUp(int s) {
            force = forceBehind(s, force);
            guilts[s] = guilts[s] / 2;
        }

        void passHour() {
            int taken = Math.min(force / 5, roofs[place]);
            roofs[place] -= taken;
            lost = Math.min(MOST_LOST, lost + taken);
            int next = way == 1 ? place + 1 : place - 1;
            if (next < 0 || next >= souls) {
                way = 1 - way;
            } else {
                place = next;
            }
            force = Math.max(0, force - calm);
            hour++;
        }

        /** What the number drawn brings ahead of an hour of the years. */
        void meet(int x) {
            if (souls == 0) {
                return;
            }
            if (force == 0) {
                force = x % 61;
                place = x % souls;
            } else if (x % 3 == 0) {
                ownUp(x % souls);
            }
        }

        int firstBare() {
            for (int s = 0; s < souls; s++) {
                if (roofs[s] == 0) {
                    return s;
                }
            }
            return NONE;
        }

        int allBare() {
            int many = 0;
            for (int s = 0; s < souls; s++) {
                many += roofs[s] == 0 ? 1 : 0;
            }
            return many;
        }

        int allRoofs() {
            int all = 0;
            for (int s = 0; s < souls; s++) {
                all += roofs[s];
            }
            return all;
        }
    }

    /** The bytes that came, and their reading as a coast. */
    private static final class Tape {
        final int[] bytes = new int[BYTES];
        int length;
        int at;
        int latestFault;

        int add(int letter) {
            if (length < BYTES) {
                bytes[length] = letter;
                length++;
            }
            return length;
        }

        /** False: there is a fault, at the place where the reading stands. */
        boolean readInto(Coast coast) {
            at = 0;
            if (!readLaw(coast)) {
                return false;
            }
            for (int s = 0; s <= SOULS; s++) {
                if (!readSoul(coast)) {
                    return false;
                }
                if (at >= length) {
                    return true;
                }
            }
            return wrong(3);
        }

        private boolean readLaw(Coast coast) {
            if (!readSign('s')) {
                return false;
            }
            int force = readNumber(MOST_FORCE);
            if (force == NONE || !readSign(',')) {
                return false;
            }
            int calm = readNumber(MOST_CALM);
            if (calm == NONE || !readSign(';')) {
                return false;
            }
            coast.begin(force, calm);
            return true;
        }

        private boolean readSoul(Coast coast) {
            int kind = kindOf(here());
            if (kind == 0) {
                return wrong(1);
            }
            if (coast.souls >= SOULS) {
                return wrong(3);
            }
            at++;
            int guilt = readNumber(MOST_GUILT);
            if (guilt == NONE || !readSign(',')) {
                return false;
            }
            int roofs = readNumber(MOST_ROOFS);
            if (roofs == NONE || !readSign(';')) {
                return false;
            }
            coast.addSoul(kind, guilt, roofs);
            return true;
        }

        private boolean readSign(int sign) {
            if (here() != sign) {
                return wrong(1);
            }
            at++;
            return true;
        }

        private int readNumber(int most) {
            int figures = 0;
            int value = 0;
            while (at + figures < length && isFigure(bytes[at + figures])) {
                value = value * 10 + bytes[at + figures] - '0';
                figures++;
            }
            if (figures < 1 || figures > 2) {
                wrong(1);
                return NONE;
            }
            if (value > most) {
                wrong(2);
                return NONE;
            }
            at += figures;
            return value;
        }

        private int here() {
            return at < length ? bytes[at] : NONE;
        }

        private boolean wrong(int number) {
            latestFault = number;
            return false;
        }

        private static boolean isFigure(int letter) {
            return letter >= '0' && letter <= '9';
        }

        private static int kindOf(int letter) {
            switch (letter) {
                case 'm':
                    return MAN;
                case 'l':
                    return LIAR;
                case 'p':
                    return PARSON;
                case 'w':
                    return WOMAN;
                case 'o':
                    return OLD;
                default:
                    return 0;
            }
        }
    }

    /** The coast as it was ahead of each of the latest acts, in a ring. */
    private static final class Acts {
        private final Coast[] before = new Coast[ACTS];
        private int next;
        int many;

        Acts() {
            for (int i = 0; i < ACTS; i++) {
                before[i] = new Coast();
            }
        }

        void keep(Coast coast) {
            before[next].take(coast);
            next = (next + 1) % ACTS;
            many = Math.min(ACTS, many + 1);
        }

        void giveBack(Coast coast) {
            if (many == 0) {
                return;
            }
            next = (next + ACTS - 1) % ACTS;
            many--;
            coast.take(before[next]);
        }

        void forget() {
            many = 0;
        }
    }

    /** The row of confessions by which the force is least. */
    private static final class Order {
        private final int[] row = new int[SOULS];
        private final long[] seen = new long[1 << SOULS];
        final int[] best = new int[SOULS];
        int length;
        int leastForce;

        void seek(Coast coast) {
            Arrays.fill(seen, 0);
            length = 0;
            leastForce = coast.force;
            goOn(coast, coast.force, 0, 0);
        }

        /** Goes by numbers, so that of rows of one length the first is met first. */
        private void goOn(Coast coast, int force, int used, int depth) {
            if (depth >= coast.souls || depth >= SOULS || isOld(used, force)) {
                return;
            }
            for (int s = 0; s < coast.souls; s++) {
                if ((used >> s & 1) == 0) {
                    row[depth] = s;
                    int then = coast.forceBehind(s, force);
                    judge(then, depth + 1);
                    goOn(coast, then, used | 1 << s, depth + 1);
                }
            }
        }

        /** An earlier row of the same souls with the same force goes on just as this one, but comes first. */
        private boolean isOld(int used, int force) {
            boolean old = (seen[used] >> force & 1) != 0;
            seen[used] |= 1L << force;
            return old;
        }

        private void judge(int force, int depth) {
            if (force < leastForce || force == leastForce && depth < length) {
                leastForce = force;
                length = depth;
                System.arraycopy(row, 0, best, 0, depth);
            }
        }
    }

    /** The bodies that answer an ask, and the trace that they leave. */
    private static final class Bodies {
        private static final int DEEPEST = 12;
        final int[] numbers = new int[TRACE];
        int left;

        int answer(Coast coast, int s, int what) {
            left = 0;
            int kind = coast.kinds[s];
            return begin(what == 0 ? sizeBody(kind) : markBody(kind), coast, s, 0);
        }

        private int begin(int body, Coast coast, int s, int depth) {
            if (depth > DEEPEST) {
                return 0;
            }
            leave(body);
            int d = depth + 1;
            switch (body) {
                case 10:
                    return coast.roofs[s];
                case 11: {
                    int lent = begin(10, coast, s, d);
                    return lent + begin(markBody(coast.kinds[s]), coast, s, d);
                }
                case 12:
                    return -begin(11, coast, s, d);
                case 13:
                    return begin(10, coast, s, d) - 100;
                case 14:
                    return 2 * begin(13, coast, s, d);
                case 20:
                    return s;
                case 21:
                    return begin(20, coast, s, d) + coast.guilts[s];
                case 22:
                    return begin(21, coast, s, d) - 1000;
                case 23: {
                    int lent = begin(20, coast, s, d);
                    return lent - begin(sizeBody(coast.kinds[s]), coast, s, d);
                }
                case 24:
                    return 2 * begin(21, coast, s, d);
                default:
                    return 0;
            }
        }

        private void leave(int body) {
            if (left < TRACE) {
                numbers[left] = body;
                left++;
            }
        }

        private static int sizeBody(int kind) {
            switch (kind) {
                case MAN:
                case PARSON:
                    return 11;
                case LIAR:
                    return 12;
                case WOMAN:
                    return 13;
                case OLD:
                    return 14;
                default:
                    return 10;
            }
        }

        private static int markBody(int kind) {
            switch (kind) {
                case MAN:
                    return 21;
                case LIAR:
                    return 24;
                case PARSON:
                    return 22;
                case WOMAN:
                case OLD:
                    return 23;
                default:
                    return 20;
            }
        }
    }
}
