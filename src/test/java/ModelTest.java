import java.util.Random;

/** Long runs of drawn calls: the class and the plain model answer the same. */
public final class ModelTest {
    private static final int RUNS = 1500;
    private static final int CALLS = 512;
    private static final int[] WILD = {-1, -2, -3, 6, 7, 8, 24, 25, 40, 41, 60, 61, 255, 256, 999, 1000, 999999, 1000000,
        70000, -70000, Integer.MAX_VALUE, Integer.MIN_VALUE, Integer.MAX_VALUE - 5};
    private static final Due DUE = new Due();

    private final Random random;
    private final StormNames real = new StormNames();
    private final Model model = new Model();
    private final int run;
    private int made;

    private ModelTest(int run) {
        this.run = run;
        this.random = new Random(run);
    }

    public static void main(String[] args) {
        for (int run = 0; run < RUNS && DUE.allRight(); run++) {
            new ModelTest(run).go();
        }
        DUE.end();
    }

    private void go() {
        while (made < CALLS && DUE.allRight()) {
            if (random.nextInt(40) == 0 || made == 0 && random.nextInt(5) > 0) {
                feedText();
            } else {
                drawCall();
            }
        }
    }

    private void feedText() {
        String text = coastText();
        if (random.nextInt(3) == 0) {
            text = spoiled(text);
        }
        for (int i = 0; i < text.length(); i++) {
            call("feed", text.charAt(i));
        }
        call("coast");
        call("fault");
    }

    private String coastText() {
        StringBuilder text = new StringBuilder("s").append(most(60)).append(',').append(most(5)).append(';');
        int souls = 1 + random.nextInt(random.nextInt(8) == 0 ? 9 : 7);
        boolean alike = random.nextInt(4) == 0;
        char sort = "mlpwo".charAt(random.nextInt(5));
        for (int s = 0; s < souls; s++) {
            text.append(alike ? sort : "mlpwo".charAt(random.nextInt(5)));
            text.append(most(20)).append(',').append(most(random.nextInt(4) == 0 ? 3 : 30)).append(';');
        }
        return text.toString();
    }

    private String most(int most) {
        int number = random.nextInt(8) == 0 ? most : random.nextInt(most + 1);
        return (number < 10 && random.nextInt(6) == 0 ? "0" : "") + number;
    }

    private String spoiled(String text) {
        StringBuilder spoiled = new StringBuilder(text);
        int at = random.nextInt(text.length());
        String bytes = "smlpwox,;0193 S\0\u00ff";
        switch (random.nextInt(4)) {
            case 0: spoiled.setLength(at); break;
            case 1: spoiled.insert(at, bytes.charAt(random.nextInt(bytes.length()))); break;
            case 2: spoiled.deleteCharAt(at); break;
            default: spoiled.setCharAt(at, bytes.charAt(random.nextInt(bytes.length()))); break;
        }
        return spoiled.toString();
    }

    /** Mostly a number as told, now and then one at or beyond an edge. */
    private int number(int least, int most) {
        int kind = random.nextInt(24);
        if (kind == 0) {
            return WILD[random.nextInt(WILD.length)];
        }
        if (kind == 1) {
            return random.nextBoolean() ? least - 1 : most + 1;
        }
        if (kind == 2) {
            return random.nextBoolean() ? least : most;
        }
        return least + random.nextInt(most - least + 1);
    }

    private int aSoul() {
        int souls = Math.max(1, model.count(1));
        return number(0, souls - 1);
    }

    private void drawCall() {
        switch (random.nextInt(36)) {
            case 0: call("row", number(0, 3), number(0, 2), number(0, 40)); break;
            case 1: call("set", number(0, 3), number(0, 20), random.nextBoolean() ? random.nextInt() : number(0, 30)); break;
            case 2: call("copy", number(0, 3), number(0, 10), number(0, 3), number(0, 10), number(0, 10)); break;
            case 3: call("drop", random.nextInt(3) == 0 ? number(0, 3) : number(4, 7)); break;
            case 4: call("fault"); break;
            case 5: call("hours", random.nextInt(4) == 0 ? number(1, 24) : number(1, 4)); break;
            case 6: call("confess", aSoul()); break;
            case 7: call("mend", aSoul(), number(1, 30)); break;
            case 8: call("raise", number(0, 60), aSoul()); break;
            case 9: call("veer"); break;
            case 10: call("undo"); break;
            case 11: call("soul", aSoul(), number(0, 3)); break;
            case 12: call("roofs", aSoul(), number(0, 60)); break;
            case 13: call("later", number(0, 60), number(0, 2)); break;
            case 14: call("still"); break;
            case 15: call("bare", number(0, 1)); break;
            case 16: call("list", number(0, 60), number(0, 1)); break;
            case 17: orders(); break;
            case 18: call("named", number(1, 30), number(0, 1)); break;
            case 19: call("premium", aSoul(), number(0, 999)); break;
            case 20: fitting(); break;
            case 21: call("dropped", aSoul(), number(-2, random.nextBoolean() ? 60 : 20), number(0, 1)); break;
            case 22: call("owning", number(0, 60), number(0, 10), number(0, 1)); break;
            case 23: call("drawn", number(0, 60), number(1, 999999), number(0, 1)); break;
            case 24: call("image", number(0, 1)); break;
            case 25: call("restore", number(0, 1)); break;
            case 26: call("kind", aSoul()); break;
            case 27: call("as", aSoul(), number(0, 5)); break;
            case 28: call("ask", aSoul(), number(0, 1)); break;
            case 29: call("trace", number(0, 6)); break;
            case 30: case 31: call("count", number(0, 9)); break;
            case 32: call("status"); break;
            case 33: call("feed", number(0, 255)); call("coast"); break;
            case 34: dropAsItWould(); break;
            default: everySoul(); break;
        }
    }

    /** The model's ORDER tries all rows: rarely, then, and with few of the places. */
    private void orders() {
        if (random.nextInt(4) == 0) {
            call("order", number(-1, 3));
        }
    }

    /** Writes into a row what will be so, at times with one item off, and asks by it. */
    private void fitting() {
        int row = number(0, 3);
        int soul = aSoul();
        int n = number(1, 12);
        int i = number(0, 4);
        if (random.nextBoolean()) {
            call("row", row, number(0, 2), number(16, 18));
            int guess = random.nextInt(3) == 0 ? random.nextInt(n > 0 && n <= 12 ? n : 1) : -1;
            for (int k = 0; k < n && k < 12; k++) {
                call("set", row, i + k, model.roofs(soul, k + 1) - (k == guess ? 1 : 0));
            }
        }
        for (int what = 0; what <= 4; what++) {
            call("fits", soul, row, i, n, what);
        }
        call("status");
    }

    private void dropAsItWould() {
        int soul = aSoul();
        int x = model.soul(soul, 3);
        call("dropped", soul, x, 0);
        call("dropped", soul, x, 1);
    }

    private void everySoul() {
        for (int s = 0; s < model.count(1); s++) {
            call("soul", s, 0);
            call("soul", s, 1);
        }
        for (int what = 0; what <= 9; what++) {
            call("count", what);
        }
    }

    private void call(String name, int... a) {
        made++;
        StringBuilder told = new StringBuilder("run ").append(run).append(": ").append(name);
        for (int number : a) {
            told.append(' ').append(number);
        }
        switch (a.length) {
            case 0: DUE.due(told.toString(), without(name), modelWithout(name)); break;
            case 1: DUE.due(told.toString(), ofOne(name, a[0]), modelOfOne(name, a[0])); break;
            case 2: DUE.due(told.toString(), ofTwo(name, a[0], a[1]), modelOfTwo(name, a[0], a[1])); break;
            case 3: DUE.due(told.toString(), ofThree(name, a), modelOfThree(name, a)); break;
            default: DUE.due(told.toString(), ofFive(name, a), modelOfFive(name, a)); break;
        }
    }

    private int without(String name) {
        switch (name) {
            case "coast": return real.coast();
            case "fault": return real.fault();
            case "veer": return real.veer();
            case "undo": return real.undo();
            case "still": return real.still();
            default: return real.status();
        }
    }

    private int modelWithout(String name) {
        switch (name) {
            case "coast": return model.coast();
            case "fault": return model.fault();
            case "veer": return model.veer();
            case "undo": return model.undo();
            case "still": return model.still();
            default: return model.status();
        }
    }

    private int ofOne(String name, int a) {
        switch (name) {
            case "drop": return real.drop(a);
            case "feed": return real.feed(a);
            case "hours": return real.hours(a);
            case "confess": return real.confess(a);
            case "bare": return real.bare(a);
            case "order": return real.order(a);
            case "image": return real.image(a);
            case "restore": return real.restore(a);
            case "kind": return real.kind(a);
            case "trace": return real.trace(a);
            default: return real.count(a);
        }
    }

    private int modelOfOne(String name, int a) {
        switch (name) {
            case "drop": return model.drop(a);
            case "feed": return model.feed(a);
            case "hours": return model.hours(a);
            case "confess": return model.confess(a);
            case "bare": return model.bare(a);
            case "order": return model.order(a);
            case "image": return model.image(a);
            case "restore": return model.restore(a);
            case "kind": return model.kind(a);
            case "trace": return model.trace(a);
            default: return model.count(a);
        }
    }

    private int ofTwo(String name, int a, int b) {
        switch (name) {
            case "mend": return real.mend(a, b);
            case "raise": return real.raise(a, b);
            case "soul": return real.soul(a, b);
            case "roofs": return real.roofs(a, b);
            case "later": return real.later(a, b);
            case "list": return real.list(a, b);
            case "named": return real.named(a, b);
            case "premium": return real.premium(a, b);
            case "as": return real.as(a, b);
            default: return real.ask(a, b);
        }
    }

    private int modelOfTwo(String name, int a, int b) {
        switch (name) {
            case "mend": return model.mend(a, b);
            case "raise": return model.raise(a, b);
            case "soul": return model.soul(a, b);
            case "roofs": return model.roofs(a, b);
            case "later": return model.later(a, b);
            case "list": return model.list(a, b);
            case "named": return model.named(a, b);
            case "premium": return model.premium(a, b);
            case "as": return model.as(a, b);
            default: return model.ask(a, b);
        }
    }

    private int ofThree(String name, int[] a) {
        switch (name) {
            case "row": return real.row(a[0], a[1], a[2]);
            case "set": return real.set(a[0], a[1], a[2]);
            case "dropped": return real.dropped(a[0], a[1], a[2]);
            case "owning": return real.owning(a[0], a[1], a[2]);
            default: return real.drawn(a[0], a[1], a[2]);
        }
    }

    private int modelOfThree(String name, int[] a) {
        switch (name) {
            case "row": return model.row(a[0], a[1], a[2]);
            case "set": return model.set(a[0], a[1], a[2]);
            case "dropped": return model.dropped(a[0], a[1], a[2]);
            case "owning": return model.owning(a[0], a[1], a[2]);
            default: return model.drawn(a[0], a[1], a[2]);
        }
    }

    private int ofFive(String name, int[] a) {
        return name.equals("copy") ? real.copy(a[0], a[1], a[2], a[3], a[4]) : real.fits(a[0], a[1], a[2], a[3], a[4]);
    }

    private int modelOfFive(String name, int[] a) {
        return name.equals("copy") ? model.copy(a[0], a[1], a[2], a[3], a[4]) : model.fits(a[0], a[1], a[2], a[3], a[4]);
    }
}
