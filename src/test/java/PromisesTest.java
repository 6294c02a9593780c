/** Each promise by answers worked out by hand: ordinary ones, the edges, wrong numbers. */
public final class PromisesTest {
    private static final int NONE = -1000000, BAD = -1000001, STATE = -1000002, FULL = -1000003;
    private static final int NULL = -1000011, PLACE = -1000012, KIND = -1000013, SIZE = -1000014, STORE = -1000015;
    private static final String FIVE = "s40,2;m12,20;l18,9;p9,30;w10,14;o3,0;";
    private static final Due DUE = new Due();
    private static int promise;

    private static void due(String call, int got, int want) {
        DUE.due("promise " + promise + ": " + call, got, want);
    }

    private static void same(String call, String got, String want) {
        due(call + " leaves <" + got + ">, due is <" + want + ">", got.equals(want) ? 1 : 0, 1);
    }

    private static StormNames rowOf(StormNames x, int... items) {
        x.row(0, 2, items.length);
        for (int i = 0; i < items.length; i++) {
            x.set(0, i, items[i]);
        }
        return x;
    }

    public static void main(String[] args) {
        rows();
        reading();
        acts();
        foretold();
        confessionsForetold();
        told();
        images();
        asked();
        DUE.end();
    }

    private static void rows() {
        promise1();
        promise2();
        promise3();
        promise4();
        promise5();
    }

    private static void promise1() {
        promise = 1;
        StormNames x = new StormNames();
        for (int what = 0; what <= 9; what++) {
            due("count(" + what + ")", x.count(what), 0);
        }
        due("status", x.status(), 0);
        due("fault", x.fault(), 0);
        due("trace", x.trace(0), NONE);
        due("still", x.still(), STATE);
        due("undo", x.undo(), STATE);
        due("kind", x.kind(0), BAD);
        due("restore", x.restore(0), STATE);
        for (int row = 0; row < 8; row++) {
            due("drop", x.drop(row), NULL);
        }
        due("NONE", StormNames.NONE, NONE);
        due("BAD", StormNames.BAD, BAD);
        due("STATE", StormNames.STATE, STATE);
        due("FULL", StormNames.FULL, FULL);
    }

    private static void promise2() {
        promise = 2;
        StormNames x = new StormNames();
        due("row 0", x.row(0, 0, 0), 0);
        due("row 7 of 40", x.row(7, 2, 40), 40);
        due("rows", x.count(0), 2);
        due("set", x.set(7, 39, 1 << 30), 1 << 30);
        due("row -1", x.row(-1, 0, 1), BAD);
        due("row 8", x.row(8, 0, 1), BAD);
        due("lane -1", x.row(0, -1, 1), BAD);
        due("lane 3", x.row(0, 3, 1), BAD);
        due("of 41", x.row(0, 0, 41), BAD);
        due("status", x.status(), 0);
        due("BAD ahead of SIZE", x.row(0, 3, -1), BAD);
        due("of -1", x.row(7, 0, -1), SIZE);
        due("status", x.status(), 4);
        due("the least", x.row(7, 0, Integer.MIN_VALUE), SIZE);
        due("stays", x.set(7, 38, 300), 300);
        due("in place of it", x.row(7, 0, 3), 3);
        due("rows", x.count(0), 2);
        due("status", x.status(), 0);
        due("set", x.set(7, 2, 300), 44);
        due("set", x.set(7, 3, 300), PLACE);
        due("anew", x.row(7, 2, 40), 40);
        x = Due.coastOf("s0,0;m1,0;m1,5;");
        x.row(0, 2, 2);
        due("items are 0 at first", x.fits(0, 0, 0, 2, 0), 61);
        x.set(0, 0, 3);
        due("item 3", x.fits(0, 0, 0, 2, 0), 0);
        x.row(0, 2, 2);
        due("items are 0 again", x.fits(0, 0, 0, 2, 0), 61);
    }

    private static void promise3() {
        promise = 3;
        StormNames x = new StormNames();
        x.row(0, 0, 2);
        x.row(1, 1, 2);
        x.row(2, 2, 2);
        int[][] byLane = {
            {0, 127, 127}, {0, 128, -128}, {0, 255, -1}, {0, 256, 0}, {0, -129, 127}, {0, Integer.MIN_VALUE, 0},
            {1, 32767, 32767}, {1, 32768, -32768}, {1, 65535, -1}, {1, 65536, 0}, {1, -32769, 32767},
            {2, 65536, 65536}, {2, Integer.MAX_VALUE, Integer.MAX_VALUE}, {2, Integer.MIN_VALUE, Integer.MIN_VALUE}};
        for (int[] one : byLane) {
            due("set of lane " + one[0] + " " + one[1], x.set(one[0], 1, one[1]), one[2]);
        }
        due("place -1", x.set(0, -1, 1), PLACE);
        due("place 2", x.set(0, 2, 1), PLACE);
        due("status", x.status(), 2);
        due("the greatest place", x.set(0, Integer.MAX_VALUE, 1), PLACE);
        due("row -1", x.set(-1, 0, 1), BAD);
        due("row 8", x.set(8, 0, 1), BAD);
        due("status stays", x.status(), 2);
        due("missing", x.set(3, -1, 1), NULL);
        due("status", x.status(), 1);
        due("set", x.set(0, 0, 1), 1);
        due("status", x.status(), 0);
    }

    private static void promise4() {
        promise = 4;
        StormNames x = Due.coastOf("s5,0;m0,9;m0,9;");
        rowOf(x, 8, 8, 8, 7, 6);
        x.row(1, 2, 3);
        due("copy", x.copy(0, 2, 1, 0, 3), 3);
        due("8 came", x.fits(0, 1, 0, 1, 0), 5);
        due("8 7 6 came", x.fits(0, 1, 0, 3, 2), 0);
        x.raise(5, 1);
        due("8 8 8 7 6 stay", x.fits(0, 0, 0, 5, 3), 0);
        due("none", x.copy(0, 5, 1, 3, 0), 0);
        due("i beyond", x.copy(0, 6, 1, 0, 0), PLACE);
        due("j beyond", x.copy(0, 0, 1, 4, 0), PLACE);
        due("n beyond i", x.copy(0, 3, 1, 0, 3), PLACE);
        due("n beyond j", x.copy(0, 0, 1, 1, 3), PLACE);
        due("i below 0", x.copy(0, -1, 1, 0, 1), PLACE);
        due("j below 0", x.copy(0, 0, 1, -1, 1), PLACE);
        due("n below 0", x.copy(0, 1, 1, 1, -1), PLACE);
        due("sums wrap", x.copy(0, Integer.MAX_VALUE, 1, 0, Integer.MAX_VALUE), PLACE);
        due("sums wrap", x.copy(0, 1, 1, 1, Integer.MAX_VALUE), PLACE);
        due("status", x.status(), 2);
        x.row(7, 2, 3);
        due("to 7", x.copy(0, 0, 7, 0, 3), 3);
        due("from 7", x.copy(7, 0, 1, 0, 3), 3);
        x.row(2, 1, 3);
        due("two lanes", x.copy(0, 9, 2, 0, 0), STORE);
        due("status", x.status(), 5);
        due("a missing", x.copy(3, 0, 2, 9, 1), NULL);
        due("b missing", x.copy(2, 0, 3, 9, 1), NULL);
        due("both the missing one", x.copy(3, 0, 3, 0, 1), NULL);
        due("a -1", x.copy(-1, 0, 3, 0, 1), BAD);
        due("a 8", x.copy(8, 0, 3, 0, 1), BAD);
        due("b -1", x.copy(3, 0, -1, 0, 1), BAD);
        due("b 8", x.copy(3, 0, 8, 0, 1), BAD);
        due("status stays", x.status(), 1);
        overlapping();
    }

    private static void overlapping() {
        StormNames x = Due.coastOf("s0,0;m0,1;m0,2;m0,3;");
        rowOf(x, 1, 2, 3, 0);
        due("up", x.copy(0, 0, 0, 1, 3), 3);
        due("1 at 0", x.fits(0, 0, 0, 2, 3), 3);
        due("2 at 2", x.fits(1, 0, 2, 1, 3), 3);
        due("3 at 3", x.fits(2, 0, 3, 1, 3), 3);
        due("down", x.copy(0, 1, 0, 0, 3), 3);
        due("1 at 0", x.fits(0, 0, 0, 1, 3), 3);
        due("2 at 1", x.fits(1, 0, 1, 1, 3), 3);
        due("3 at 2 and 3", x.fits(2, 0, 2, 2, 3), 3);
        due("status", x.status(), 0);
    }

    private static void promise5() {
        promise = 5;
        StormNames x = new StormNames();
        x.row(7, 1, 40);
        x.row(0, 1, 0);
        due("drop", x.drop(7), 40);
        due("rows", x.count(0), 1);
        due("again", x.drop(7), NULL);
        due("status", x.status(), 1);
        due("-1", x.drop(-1), BAD);
        due("8", x.drop(8), BAD);
        due("status stays", x.status(), 1);
        due("of none", x.drop(0), 0);
        due("status", x.status(), 0);
        due("rows", x.count(0), 0);
        due("set", x.set(7, 0, 0), NULL);
    }

    private static void reading() {
        promise6();
        promise7();
        promise8();
    }

    private static void promise6() {
        promise = 6;
        StormNames x = new StormNames();
        due("-1", x.feed(-1), BAD);
        due("256", x.feed(256), BAD);
        due("0", x.feed(0), 1);
        due("255", x.feed(255), 2);
        for (int i = 3; i <= 100; i++) {
            due("feed", x.feed('s'), i);
        }
        due("full", x.feed('s'), FULL);
        due("BAD ahead of FULL", x.feed(256), BAD);
        due("bytes", x.count(9), 100);
        due("coast", x.coast(), -1000100);
        due("bytes", x.count(9), 0);
        due("feed", x.feed('s'), 1);
    }

    private static void fails(String text, int place, int fault) {
        StormNames x = Due.coastOf(FIVE);
        x.hours(2);
        String before = Seen.coast(x);
        Due.feed(x, text);
        due("coast of " + text, x.coast(), -1000100 - place);
        due("fault of " + text, x.fault(), fault);
        due("bytes", x.count(9), 0);
        due("acts stay", x.count(8), 2);
        same("a fault", Seen.coast(x), before);
    }

    private static void promise7() {
        promise = 7;
        String[] faults = {
            "", " s1,1;m1,1;", "S1,1;", "m1,1;", "ss", "s,", "s;", "s-1", "s1 ", "s1.", "s1;", "s1,;", "s1,1,",
            "s1,1;;", "s1,1;1", "s1,1;s", "s1,1;M", "s1,1;x1,1;", "s1,1;m,", "s1,1;m1;", "s1,1;m1,;", "s1,1;m1,1,",
            "s1,1;m1,1;s", "s1,1;m1,1; ", "s1,1;m1,1;1", "s1,1;mm"};
        int[] places = {
            0, 0, 0, 0, 1, 1, 1, 1, 2, 2, 2, 3, 4,
            5, 5, 5, 5, 5, 6, 7, 8, 9,
            10, 10, 10, 6};
        for (int i = 0; i < faults.length; i++) {
            fails(faults[i], places[i], 1);
        }
        String whole = "s10,1;m10,10;";
        for (int end = 0; end < whole.length(); end++) {
            fails(whole.substring(0, end), end, 1);
        }
        fails("s61,1;m1,1;", 1, 2);
        fails("s60,6;m1,1;", 4, 2);
        fails("s60,5;m21,1;", 7, 2);
        fails("s60,5;m20,31;", 10, 2);
        fails("s061,5;", 1, 1);
        fails("s001,5;", 1, 1);
        fails("s1,005;", 3, 1);
        fails("s1,5;m001,1;", 6, 1);
        fails("s1,5;m1,99999999999;", 8, 1);
        fails("123", 0, 1);
        fails("s61;", 1, 2);
        String seven = "s1,1;m1,1;l1,1;p1,1;w1,1;o1,1;m1,1;l1,1;";
        fails(seven + "m1,1;", 40, 3);
        fails(seven + "o", 40, 3);
        fails(seven + "s", 40, 1);
        fails(seven + "x", 40, 1);
        fails(seven + "1", 40, 1);
        fails(seven + ";", 40, 1);
        due("seven", Due.coastOf(seven).count(1), 7);
        coastsThatStand();
    }

    private static void coastsThatStand() {
        StormNames x = Due.coastOf("s60,5;o20,30;");
        same("the greatest", Seen.coast(x), "1 0 60 0 1 5 0 |5 20 30");
        x = Due.coastOf("s00,0;m00,00;l05,07;");
        same("naughts ahead", Seen.coast(x), "2 0 0 0 1 0 0 |1 0 0|2 5 7");
        x = Due.coastOf(FIVE);
        same("five", Seen.coast(x), "5 0 40 0 1 2 0 |1 12 20|2 18 9|3 9 30|4 10 14|5 3 0");
        x.image(0);
        x.row(3, 0, 3);
        x.hours(6);
        x.veer();
        x.later(2, 0);
        Due.feed(x, "s7,1;w2,3;");
        due("coast", x.coast(), 1);
        same("in place of it", Seen.coast(x), "1 0 7 0 1 1 0 |4 2 3");
        due("no act", x.count(8), 0);
        due("undo", x.undo(), STATE);
        due("bytes", x.count(9), 0);
        due("rows stay", x.drop(3), 3);
        due("images stay", x.restore(0), 1);
        same("the image", Seen.coast(x), "5 0 40 0 1 2 0 |1 12 20|2 18 9|3 9 30|4 10 14|5 3 0");
    }

    private static void promise8() {
        promise = 8;
        StormNames x = new StormNames();
        due("before one", x.fault(), 0);
        Due.feed(x, "s61");
        due("fed only", x.fault(), 0);
        x.coast();
        due("fault", x.fault(), 2);
        Due.feed(x, FIVE);
        due("coast", x.coast(), 5);
        due("stays", x.fault(), 2);
        x.coast();
        due("the latest", x.fault(), 1);
    }

    private static void acts() {
        promise9();
        promise10();
        promise11();
        promise12();
        promise13();
        promise14();
        promise15();
    }

    private static void promise9() {
        promise = 9;
        StormNames x = new StormNames();
        due("no coast", x.hours(1), STATE);
        due("STATE ahead of BAD", x.hours(0), STATE);
        x = Due.coastOf("s21,1;m1,30;l1,2;p1,9;");
        due("0", x.hours(0), BAD);
        due("25", x.hours(25), BAD);
        due("1", x.hours(1), 20);
        same("1", Seen.coast(x), "3 1 20 1 1 1 4 |1 1 26|2 1 2|3 1 9");
        due("2", x.hours(1), 19);
        same("no more than there are", Seen.coast(x), "3 2 19 2 1 1 6 |1 1 26|2 1 0|3 1 9");
        due("3", x.hours(1), 18);
        same("it stays, and turns", Seen.coast(x), "3 3 18 2 0 1 9 |1 1 26|2 1 0|3 1 6");
        due("5", x.hours(2), 16);
        same("down", Seen.coast(x), "3 5 16 0 0 1 12 |1 1 26|2 1 0|3 1 3");
        due("6", x.hours(1), 15);
        same("it turns below", Seen.coast(x), "3 6 15 0 1 1 15 |1 1 23|2 1 0|3 1 3");
        due("acts", x.count(8), 6);
        due("30", x.hours(24), 0);
        due("acts", x.count(8), 24);
        due("31", x.hours(1), 0);
        due("it goes on without force", x.count(2), 31);
        x = Due.coastOf("s4,5;m1,30;");
        due("no less than 0", x.hours(1), 0);
        same("alone", Seen.coast(x), "1 1 0 0 0 5 0 |1 1 30");
        due("again", x.hours(1), 0);
        same("alone", Seen.coast(x), "1 2 0 0 1 5 0 |1 1 30");
        x = Due.coastOf("s60,0;m1,30;");
        for (int i = 0; i < 416; i++) {
            x.hours(24);
        }
        due("hour", x.count(2), 9984);
        String before = Seen.coast(x);
        due("16 more", x.hours(16), FULL);
        due("BAD ahead of FULL", x.hours(25), BAD);
        same("FULL", Seen.coast(x), before);
        due("15 more", x.hours(15), 60);
        due("hour", x.count(2), 9999);
        due("1 more", x.hours(1), FULL);
    }

    private static void promise10() {
        promise = 10;
        due("no coast", new StormNames().confess(0), BAD);
        StormNames x = Due.coastOf(FIVE);
        due("-1", x.confess(-1), BAD);
        due("5", x.confess(5), BAD);
        due("a man", x.confess(0), 28);
        due("his guilt", x.soul(0, 0), 6);
        due("not him", x.confess(0), 30);
        due("his guilt", x.soul(0, 0), 3);
        due("a liar", x.confess(1), 21);
        due("his guilt", x.soul(1, 0), 9);
        due("a parson", x.confess(2), 12);
        due("a woman", x.confess(3), 4);
        due("her guilt", x.soul(3, 0), 5);
        due("an old one, 0 at least", x.confess(4), 0);
        due("her guilt", x.soul(4, 0), 1);
        due("acts", x.count(8), 6);
        due("lost", x.count(7), 0);
        due("hour", x.count(2), 0);
        x = Due.coastOf("s59,0;m13,1;m14,1;l15,1;");
        due("59 by 4 is 14", x.confess(0), 60);
        due("60 at most", x.confess(0), 60);
        due("3", x.soul(0, 0), 3);
        due("60 by 4 is 15", x.confess(1), 60);
        due("as much", x.confess(2), 53);
        due("half, cut", x.soul(2, 0), 7);
        x = Due.coastOf("s59,0;m14,1;");
        due("as much, cut", x.confess(0), 45);
        parsonByTheHour();
        x = Due.coastOf("s31,0;w9,1;o9,1;");
        due("each cut", x.confess(0), 20);
        due("and 3", x.confess(1), 8);
    }

    private static void parsonByTheHour() {
        StormNames x = Due.coastOf("s0,0;p15,1;");
        x.hours(7);
        x.raise(60, 0);
        due("a quarter of 7", x.soul(0, 2), 16);
        due("16 less", x.confess(0), 44);
        x.undo();
        x.hours(12);
        due("a quarter of 19", x.soul(0, 2), 19);
        x.hours(24);
        due("20 at most", x.soul(0, 2), 20);
        due("20 less", x.confess(0), 40);
        due("half of the guilt alone", x.soul(0, 0), 7);
    }

    private static void promise11() {
        promise = 11;
        due("no coast", new StormNames().mend(0, 1), BAD);
        StormNames x = Due.coastOf(FIVE);
        due("soul -1", x.mend(-1, 1), BAD);
        due("soul 5", x.mend(5, 1), BAD);
        due("0 roofs", x.mend(0, 0), BAD);
        due("31 roofs", x.mend(0, 31), BAD);
        due("acts", x.count(8), 0);
        due("1", x.mend(0, 1), 21);
        due("roofs", x.soul(0, 1), 21);
        due("30 at most", x.mend(0, 10), 30);
        due("30", x.mend(4, 30), 30);
        due("none more", x.mend(4, 30), 30);
        due("acts", x.count(8), 4);
    }

    private static void promise12() {
        promise = 12;
        due("no coast", new StormNames().raise(61, 0), STATE);
        StormNames x = Due.coastOf(FIVE);
        x.hours(3);
        due("force -1", x.raise(-1, 0), BAD);
        due("force 61", x.raise(61, 0), BAD);
        due("place -1", x.raise(0, -1), BAD);
        due("place 5", x.raise(0, 5), BAD);
        due("acts", x.count(8), 3);
        due("raise", x.raise(60, 4), 34);
        same("raised", Seen.coast(x), "5 3 60 4 1 2 22 |1 12 12|2 18 2|3 9 23|4 10 14|5 3 0");
        due("raise", x.raise(0, 0), 60);
        due("way stays", x.count(5), 1);
        due("force", x.count(3), 0);
        due("place", x.count(4), 0);
        due("the same again", x.raise(0, 0), 0);
        due("acts", x.count(8), 6);
    }

    private static void promise13() {
        promise = 13;
        due("no coast", new StormNames().veer(), STATE);
        StormNames x = Due.coastOf(FIVE);
        due("down", x.veer(), 0);
        due("up", x.veer(), 1);
        due("down", x.veer(), 0);
        same("nothing else", Seen.coast(x), "5 0 40 0 0 2 0 |1 12 20|2 18 9|3 9 30|4 10 14|5 3 0");
        due("acts", x.count(8), 3);
        x.hours(1);
        due("it turns", x.count(5), 1);
        due("it stays", x.count(4), 0);
    }

    private static void promise14() {
        promise = 14;
        due("no coast", new StormNames().undo(), STATE);
        StormNames x = Due.coastOf(FIVE);
        due("none", x.undo(), STATE);
        String[] before = new String[7];
        for (int act = 0; act < 7; act++) {
            before[act] = Seen.coast(x);
            switch (act) {
                case 0: x.hours(1); break;
                case 1: x.confess(3); break;
                case 2: x.mend(0, 2); break;
                case 3: x.raise(55, 4); break;
                case 4: x.veer(); break;
                case 5: x.mend(2, 1); break;
                default: x.hours(1); break;
            }
        }
        due("acts", x.count(8), 7);
        for (int act = 6; act >= 0; act--) {
            due("undo", x.undo(), act);
            same("undo " + act, Seen.coast(x), before[act]);
        }
        due("none", x.undo(), STATE);
        x.mend(2, 30);
        x.mend(2, 30);
        due("also what changes nothing", x.undo(), 1);
        same("undo", Seen.coast(x), before[0]);
        x.undo();
        manyActs();
    }

    private static void manyActs() {
        StormNames x = Due.coastOf("s50,0;m10,10;m10,10;");
        x.confess(0);
        x.hours(24);
        due("24 at most", x.count(8), 24);
        for (int i = 23; i >= 0; i--) {
            due("undo", x.undo(), i);
        }
        due("the oldest is forgotten", x.undo(), STATE);
        same("the confession stays", Seen.coast(x), "2 0 52 0 1 0 0 |1 5 10|1 10 10");
        x.hours(3);
        due("undo", x.undo(), 2);
        due("hours", x.hours(2), 52);
        due("acts", x.count(8), 4);
        due("what is refused is no act", x.hours(0), BAD);
        due("acts", x.count(8), 4);
        due("undo", x.undo(), 3);
        due("hour", x.count(2), 3);
        x.image(0);
        due("an image is no act", x.count(8), 3);
    }

    private static void promise15() {
        promise = 15;
        due("no coast", new StormNames().soul(0, 0), BAD);
        StormNames x = Due.coastOf(FIVE);
        int[][] due = {{12, 20, 12, 12}, {18, 9, 9, 9}, {9, 30, 9, -2}, {10, 14, 15, 15}, {3, 0, 14, -2}};
        for (int s = 0; s < 5; s++) {
            for (int what = 0; what < 4; what++) {
                due("soul(" + s + ", " + what + ")", x.soul(s, what), due[s][what]);
            }
        }
        due("soul -1", x.soul(-1, 0), BAD);
        due("soul 5", x.soul(5, 0), BAD);
        due("what -1", x.soul(0, -1), BAD);
        due("what 4", x.soul(0, 4), BAD);
        x.raise(5, 0);
        due("no less than there is", x.soul(0, 3), 5);
        x.raise(59, 0);
        due("no more than 60", x.soul(4, 3), -1);
        x.raise(60, 0);
        due("no more than 60", x.soul(4, 3), 0);
        due("worth of an old one", x.soul(4, 2), 19);
        due("worth of a woman", x.soul(3, 2), 20);
        due("odd guilt of a liar", Due.coastOf("s1,1;l19,1;").soul(0, 2), 9);
        due("force stays", x.count(3), 60);
        due("guilt stays", x.soul(0, 0), 12);
    }

    private static void foretold() {
        promise16();
        promise17();
        promise18();
        promise19();
    }

    private static void promise16() {
        promise = 16;
        due("no coast", new StormNames().roofs(0, 0), BAD);
        StormNames x = Due.coastOf(FIVE);
        due("soul -1", x.roofs(-1, 0), BAD);
        due("soul 5", x.roofs(5, 0), BAD);
        due("d -1", x.roofs(0, -1), BAD);
        due("d 61", x.roofs(0, 61), BAD);
        due("now", x.roofs(0, 0), 20);
        due("1 on", x.roofs(0, 1), 12);
        due("2 on", x.roofs(1, 2), 2);
        due("60 on", x.roofs(0, 60), 4);
        same("nothing changes", Seen.coast(x), "5 0 40 0 1 2 0 |1 12 20|2 18 9|3 9 30|4 10 14|5 3 0");
        due("acts", x.count(8), 0);
    }

    private static void promise17() {
        promise = 17;
        due("no coast", new StormNames().later(-1, 0), STATE);
        StormNames x = Due.coastOf(FIVE);
        int[][] due = {{0, 40, 0, 0}, {1, 38, 1, 8}, {2, 36, 2, 15}, {5, 30, 4, 28}, {60, 0, 0, 55}};
        for (int[] one : due) {
            for (int what = 0; what < 3; what++) {
                due("later(" + one[0] + ", " + what + ")", x.later(one[0], what), one[what + 1]);
            }
        }
        due("d -1", x.later(-1, 0), BAD);
        due("d 61", x.later(61, 0), BAD);
        due("what -1", x.later(0, -1), BAD);
        due("what 3", x.later(0, 3), BAD);
        x.hours(2);
        due("what is lost in all", x.later(0, 2), 15);
        same("nothing changes", Seen.coast(x), "5 2 36 2 1 2 15 |1 12 12|2 18 2|3 9 30|4 10 14|5 3 0");
        due("acts", x.count(8), 2);
    }

    private static void promise18() {
        promise = 18;
        due("no coast", new StormNames().still(), STATE);
        due("20", Due.coastOf(FIVE).still(), 20);
        due("cut up", Due.coastOf("s41,2;m1,1;").still(), 21);
        due("now", Due.coastOf("s0,0;m1,1;").still(), 0);
        due("60", Due.coastOf("s60,1;m1,1;").still(), 60);
        due("never", Due.coastOf("s1,0;m1,1;").still(), NONE);
        StormNames x = Due.coastOf(FIVE);
        x.still();
        due("nothing changes", x.count(3), 40);
        x.later(30, 0);
        due("from now on", x.still(), 20);
        x.hours(5);
        due("from now on", x.still(), 15);
    }

    private static void promise19() {
        promise = 19;
        StormNames x = new StormNames();
        due("no coast", x.bare(2), STATE);
        x = Due.coastOf(FIVE);
        due("what -1", x.bare(-1), BAD);
        due("what 2", x.bare(2), BAD);
        due("now: who", x.bare(0), 4);
        due("now: when", x.bare(1), 0);
        x.mend(4, 30);
        due("who", x.bare(0), 1);
        due("when", x.bare(1), 9);
        due("nothing changes", x.soul(1, 1), 9);
        x.later(30, 0);
        due("from now on", x.bare(1), 9);
        x = Due.coastOf("s60,0;m1,30;m1,0;m1,0;");
        due("the least of several", x.bare(0), 1);
        x = Due.coastOf("s5,0;m1,30;m1,30;");
        due("who", x.bare(0), 1);
        due("when", x.bare(1), 59);
        x = Due.coastOf("s5,0;m1,20;m1,30;m1,30;");
        due("at the end", x.bare(0), 0);
        due("at the end", x.bare(1), 60);
        x = Due.coastOf("s5,0;m1,21;m1,30;m1,30;");
        due("too late", x.bare(0), NONE);
        x = Due.coastOf("s5,0;m1,30;");
        due("alone", x.bare(1), 30);
        x = Due.coastOf("s5,0;m1,30;m1,30;m1,30;");
        due("too late", x.bare(0), NONE);
        due("too late", x.bare(1), NONE);
        due("never", Due.coastOf("s4,0;m1,1;").bare(0), NONE);
        due("never", Due.coastOf("s4,0;m1,1;").bare(1), NONE);
    }

    private static void confessionsForetold() {
        promise20();
        promise21();
        promise22();
        promise25();
        promise26();
    }

    private static void promise20() {
        promise = 20;
        StormNames x = new StormNames();
        due("no coast", x.list(-1, 0), STATE);
        x = Due.coastOf(FIVE);
        due("w -1", x.list(-1, 0), BAD);
        due("w 61", x.list(61, 0), BAD);
        due("what -1", x.list(0, -1), BAD);
        due("what 2", x.list(0, 2), BAD);
        int[][] due = {{0, 5, 31}, {10, 3, 7}, {30, 1, 1}, {39, 1, 1}, {40, 0, 0}, {60, 0, 0}, {25, 1, 8}, {24, 2, 3}};
        for (int[] one : due) {
            due("how many for " + one[0], x.list(one[0], 0), one[1]);
            due("which for " + one[0], x.list(one[0], 1), one[2]);
        }
        due("guilt stays", x.soul(0, 0), 12);
        x = Due.coastOf("s60,0;m14,1;m14,1;");
        due("none", x.list(59, 0), NONE);
        due("none", x.list(59, 1), NONE);
        x = Due.coastOf("s20,0;m5,1;m10,1;m5,1;m5,1;m5,1;");
        due("fewest first, not least bits", x.list(10, 1), 2);
        x = Due.coastOf("s20,0;m5,1;m5,1;m10,1;");
        due("bits", x.list(5, 1), 5);
        due("how many", x.list(5, 0), 2);
    }

    private static void promise21() {
        promise = 21;
        StormNames x = new StormNames();
        due("no coast", x.order(-2), STATE);
        x = Due.coastOf(FIVE);
        due("k -2", x.order(-2), BAD);
        due("force", x.order(-1), 0);
        int[] due = {0, 3, 1, 2, NONE, NONE};
        for (int k = 0; k < due.length; k++) {
            due("order(" + k + ")", x.order(k), due[k]);
        }
        due("the greatest k", x.order(Integer.MAX_VALUE), NONE);
        due("guilt stays", x.soul(0, 0), 12);
        x.raise(0, 0);
        due("none now", x.order(0), NONE);
        x = Due.coastOf("s0,0;m5,1;");
        due("none is shortest", x.order(0), NONE);
        due("none is shortest", x.order(-1), 0);
        x = Due.coastOf("s60,0;m14,1;m13,1;");
        due("none is best", x.order(-1), 60);
        due("none is best", x.order(0), NONE);
        x = Due.coastOf("s40,0;m9,1;m20,1;");
        due("another first", x.order(0), 1);
        due("then it", x.order(1), 0);
        due("force", x.order(-1), 11);
        x = Due.coastOf("s30,0;m10,1;m10,1;m10,1;m10,1;");
        due("shortest", x.order(3), NONE);
        due("by numbers", x.order(0) * 100 + x.order(1) * 10 + x.order(2), 12);
        x = Due.coastOf("s60,0;m20,1;l20,1;p20,1;w20,1;o20,1;m14,1;w15,1;");
        due("three", x.order(-1), 0);
        due("seven souls", x.order(0) * 100 + x.order(1) * 10 + x.order(2), 32);
    }

    private static void promise22() {
        promise = 22;
        StormNames x = new StormNames();
        due("no coast", x.named(0, 0), STATE);
        x = Due.coastOf(FIVE);
        due("n 0", x.named(0, 0), BAD);
        due("n 31", x.named(31, 0), BAD);
        due("what -1", x.named(1, -1), BAD);
        due("what 2", x.named(1, 2), BAD);
        due("the least of several", x.named(1, 0), 0);
        due("how much", x.named(1, 1), 5);
        due("who", x.named(30, 0), 3);
        due("how much", x.named(30, 1), 23);
        x.hours(1);
        due("in them alone", x.named(1, 1), 4);
        same("nothing changes", Seen.coast(x), "5 1 38 1 1 2 8 |1 12 12|2 18 9|3 9 30|4 10 14|5 3 0");
        x = Due.coastOf("s40,0;m9,5;m1,5;");
        due("none", x.named(3, 0), NONE);
        due("none", x.named(3, 1), NONE);
        x = Due.coastOf("s0,0;m9,5;");
        due("not less", x.named(3, 0), NONE);
        x = Due.coastOf("s10,0;m2,9;m10,9;");
        due("none lost", x.named(3, 0), 1);
        due("none lost", x.named(3, 1), 0);
    }

    private static void promise25() {
        promise = 25;
        due("no coast", new StormNames().dropped(0, 0, 0), BAD);
        StormNames x = Due.coastOf(FIVE);
        due("soul -1", x.dropped(-1, 0, 0), BAD);
        due("soul 5", x.dropped(5, 0, 0), BAD);
        due("x -3", x.dropped(0, -3, 0), BAD);
        due("x 61", x.dropped(0, 61, 0), BAD);
        due("what -1", x.dropped(0, 0, -1), BAD);
        due("what 2", x.dropped(0, 0, 2), BAD);
        due("a man or a parson", x.dropped(0, 12, 0), 1 << 1 | 1 << 3);
        due("a liar", x.dropped(0, 6, 0), 1 << 2);
        due("a woman", x.dropped(0, 16, 0), 1 << 4);
        due("an old one", x.dropped(0, 19, 0), 1 << 5);
        due("any", x.dropped(2, -2, 0), 62);
        due("none", x.dropped(2, 60, 0), 0);
        due("too little guilt", x.dropped(0, -2, 1), (1 << 10) - 1);
        due("of a man", x.dropped(0, 20, 1), 1 << 20);
        due("of a liar", x.dropped(1, 6, 1), 3 << 12);
        due("of a woman", x.dropped(3, 20, 1), 1 << 20);
        due("of an old one", x.dropped(4, 23, 1), 1 << 20);
        x.raise(5, 0);
        due("all that there is", x.dropped(0, 5, 1), (1 << 21) - (1 << 5));
        due("0", x.dropped(0, 0, 1), 0);
        x.raise(60, 0);
        due("60 at most", x.dropped(0, 0, 1), (1 << 15) - 1);
        x.raise(59, 0);
        due("60 at most", x.dropped(0, -1, 1), (1 << 14) - 1);
        x = Due.coastOf("s0,0;p10,1;");
        x.hours(9);
        x.raise(40, 0);
        due("a parson by the hour", x.dropped(0, 12, 0), 1 << 3);
        due("his guilt", x.dropped(0, 20, 1), 7 << 18);
    }

    private static void promise26() {
        promise = 26;
        due("no coast", new StormNames().owning(-1, 0, 0), STATE);
        StormNames x = Due.coastOf(FIVE);
        due("w -1", x.owning(-1, 0, 0), BAD);
        due("w 61", x.owning(61, 0, 0), BAD);
        due("c -1", x.owning(0, -1, 0), BAD);
        due("c 11", x.owning(0, 11, 0), BAD);
        due("what -1", x.owning(0, 0, -1), BAD);
        due("what 2", x.owning(0, 0, 2), BAD);
        int[][] due = {
            {0, 3, 243, 100000}, {10, 3, 7047, 100000}, {30, 3, 5541, 10000}, {60, 3, 1, 1},
            {60, 0, 1, 1}, {0, 0, 0, 1}, {0, 10, 1, 1}, {39, 0, 0, 1}, {40, 0, 1, 1}};
        for (int[] one : due) {
            due("above of " + one[0] + " by " + one[1], x.owning(one[0], one[1], 0), one[2]);
            due("below of " + one[0] + " by " + one[1], x.owning(one[0], one[1], 1), one[3]);
        }
        x = Due.coastOf("s10,0;m10,1;m10,1;");
        due("one of two", x.owning(0, 5, 0) * 100 + x.owning(0, 5, 1), 304);
        x = Due.coastOf("s9,0;m9,1;m9,1;m9,1;m9,1;m9,1;m9,1;m9,1;");
        due("one of seven", x.owning(0, 1, 0), 5217031);
        due("one of seven", x.owning(0, 1, 1), 10000000);
    }

    private static void told() {
        promise23();
        promise24();
        promise27();
    }

    private static void promise23() {
        promise = 23;
        due("no coast", new StormNames().premium(0, 0), BAD);
        StormNames x = Due.coastOf(FIVE);
        due("soul -1", x.premium(-1, 0), BAD);
        due("soul 5", x.premium(5, 0), BAD);
        due("n -1", x.premium(0, -1), BAD);
        due("n 1000", x.premium(0, 1000), BAD);
        due("0", x.premium(2, 0), 0);
        int[] of100 = {28, 12, 41, 19, 0};
        int[] of7 = {2, 1, 3, 1, 0};
        int[] of999 = {274, 124, 410, 191, 0};
        for (int s = 0; s < 5; s++) {
            due("100 of " + s, x.premium(s, 100), of100[s]);
            due("7 of " + s, x.premium(s, 7), of7[s]);
            due("999 of " + s, x.premium(s, 999), of999[s]);
        }
        x = Due.coastOf("s0,0;m1,0;m1,0;");
        due("no roofs", x.premium(0, 99), 0);
        x = Due.coastOf("s0,0;m1,0;m1,1;");
        due("one roof", x.premium(1, 999), 999);
        x = Due.coastOf("s0,0;m1,0;m1,1;m1,0;m1,1;m1,1;");
        due("none to those without", x.premium(0, 2), 0);
        due("the first", x.premium(1, 2), 1);
        due("none to those without", x.premium(2, 2), 0);
        due("the second", x.premium(3, 2), 1);
        due("the third", x.premium(4, 2), 0);
    }

    private static void promise24() {
        promise = 24;
        due("no coast", new StormNames().fits(0, 0, 0, 1, 0), BAD);
        StormNames x = Due.coastOf("s40,2;m0,30;m0,9;m0,30;");
        rowOf(x, 22, 22, 22, 22, 22, 16);
        due("soul -1", x.fits(-1, 0, 0, 1, 0), BAD);
        due("soul 3", x.fits(3, 0, 0, 1, 0), BAD);
        due("row -1", x.fits(0, -1, 0, 1, 0), BAD);
        due("row 8", x.fits(0, 8, 0, 1, 0), BAD);
        due("n 0", x.fits(0, 0, 0, 0, 0), BAD);
        due("n 13", x.fits(0, 0, 0, 13, 0), BAD);
        due("what -1", x.fits(0, 0, 0, 1, -1), BAD);
        due("what 5", x.fits(0, 0, 0, 1, 5), BAD);
        due("status", x.status(), 0);
        due("missing", x.fits(0, 1, -1, 1, 0), NULL);
        due("status", x.status(), 1);
        due("BAD stays so", x.fits(0, 1, -1, 0, 0), BAD);
        due("i -1", x.fits(0, 0, -1, 1, 0), PLACE);
        due("beyond", x.fits(0, 0, 1, 6, 0), PLACE);
        due("wrap", x.fits(0, 0, Integer.MAX_VALUE, 12, 0), PLACE);
        due("status", x.status(), 2);
        due("how many", x.fits(0, 0, 0, 1, 0), 5);
        due("status", x.status(), 0);
        due("the least", x.fits(0, 0, 0, 1, 1), 40);
        due("behind six", x.fits(0, 0, 0, 6, 0), 5);
        due("the least", x.fits(0, 0, 0, 6, 1), 40);
        due("places", x.fits(0, 0, 0, 6, 2), 1);
        due("ways", x.fits(0, 0, 0, 6, 3), 2);
        due("both ways", x.fits(0, 0, 0, 1, 3), 3);
        due("calms", x.fits(0, 0, 0, 6, 4), 1 << 2);
        due("all calms", x.fits(0, 0, 0, 5, 4), 63);
        due("from 5 on", x.fits(0, 0, 5, 1, 0), 0);
        due("none", x.fits(0, 0, 5, 1, 1), NONE);
        due("no place", x.fits(0, 0, 5, 1, 2), 0);
        same("nothing changes", Seen.coast(x), "3 0 40 0 1 2 0 |1 0 30|1 0 9|1 0 30");
        rowOf(x, 30, 30, 30, 30, 30, 30, 30, 30, 30, 30, 30, 30);
        due("twelve", x.fits(0, 0, 0, 12, 1), 0);
        due("the last place, too", x.fits(2, 0, 0, 1, 2), 3);
        x.row(7, 0, 1);
        due("row 7", x.fits(0, 7, 0, 1, 0), 0);
        rowOf(x, 9);
        due("another soul", x.fits(1, 0, 0, 1, 2), 5);
        due("every force", x.fits(1, 0, 0, 1, 0), 61);
        due("the least", x.fits(1, 0, 0, 1, 1), 0);
    }

    private static void promise27() {
        promise = 27;
        due("no coast", new StormNames().drawn(-1, 1, 0), STATE);
        StormNames x = Due.coastOf(FIVE);
        due("n -1", x.drawn(-1, 1, 0), BAD);
        due("n 61", x.drawn(61, 1, 0), BAD);
        due("seed 0", x.drawn(1, 0, 0), BAD);
        due("seed 1000000", x.drawn(1, 1000000, 0), BAD);
        due("what -1", x.drawn(1, 1, -1), BAD);
        due("what 2", x.drawn(1, 1, 2), BAD);
        due("none", x.drawn(0, 1, 0), 0);
        due("bare now", x.drawn(0, 999999, 1), 1);
        due("20", x.drawn(20, 7, 0), 40);
        due("20", x.drawn(20, 7, 1), 2);
        due("60", x.drawn(60, 9, 0), 73);
        due("60", x.drawn(60, 9, 1), 5);
        same("nothing changes", Seen.coast(x), "5 0 40 0 1 2 0 |1 12 20|2 18 9|3 9 30|4 10 14|5 3 0");
        x.hours(1);
        due("in them alone", x.drawn(0, 1, 0), 0);
        // 16807 by 61 leaves 32, by 3 leaves 1, by 2 leaves 1
        x = Due.coastOf("s0,0;m1,30;m1,5;");
        due("raised by 32 at 1", x.drawn(1, 1, 0), 5);
        due("raised at 1", x.drawn(1, 1, 1), 1);
        x = Due.coastOf("s0,0;m1,30;");
        due("alone", x.drawn(1, 1, 0), 6);
        due("again", x.drawn(1, 1, 0), 6);
        x = Due.coastOf("s20,0;m1,30;m1,5;");
        due("not raised", x.drawn(1, 1, 0), 4);
        // 3 * 16807 is 50421: the soul 1 of two
        x = Due.coastOf("s20,0;m0,30;m20,5;");
        due("it drops", x.drawn(1, 3, 0), 0);
        x = Due.coastOf("s20,0;m20,30;m0,5;");
        due("it blows worse", x.drawn(1, 3, 0), 4);
        x = Due.coastOf("s19,0;m20,30;m0,5;");
        due("it blows worse", x.drawn(1, 3, 0), 4);
    }

    private static void images() {
        promise28();
        promise29();
    }

    private static void promise28() {
        promise = 28;
        StormNames x = new StormNames();
        due("-1", x.image(-1), BAD);
        due("2", x.image(2), BAD);
        due("no coast", x.image(0), STATE);
        due("no coast", x.image(1), STATE);
        x = Due.coastOf(FIVE);
        due("0", x.image(0), 1);
        due("1 was not kept", x.restore(1), STATE);
        x.hours(2);
        String then = Seen.coast(x);
        due("acts stay", x.count(8), 2);
        due("1", x.image(1), 1);
        x.hours(2);
        x.restore(1);
        same("image 1", Seen.coast(x), then);
        x.image(0);
        x.veer();
        x.restore(0);
        same("image 0 is another", Seen.coast(x), then);
    }

    private static void promise29() {
        promise = 29;
        StormNames x = new StormNames();
        due("-1", x.restore(-1), BAD);
        due("2", x.restore(2), BAD);
        due("none was kept", x.restore(1), STATE);
        x = Due.coastOf(FIVE);
        x.hours(7);
        x.confess(1);
        x.veer();
        String then = Seen.coast(x);
        x.image(1);
        due("none was kept", x.restore(0), STATE);
        due("acts", x.count(8), 9);
        due("restore", x.restore(1), 1);
        due("no act", x.count(8), 0);
        due("undo", x.undo(), STATE);
        same("the same", Seen.coast(x), then);
        Due.feed(x, "s1,1;o1,1;");
        x.coast();
        due("restore", x.restore(1), 1);
        same("another coast before", Seen.coast(x), then);
        x.mend(4, 3);
        x.confess(0);
        due("restore again", x.restore(1), 1);
        same("the image stays", Seen.coast(x), then);
    }

    private static void asked() {
        promise30();
        promise31();
        promise32();
        promise33();
        promise34();
        promise35();
    }

    private static void promise30() {
        promise = 30;
        due("no coast", new StormNames().kind(0), BAD);
        StormNames x = Due.coastOf(FIVE);
        for (int s = 0; s < 5; s++) {
            due("kind", x.kind(s), s + 1);
        }
        due("-1", x.kind(-1), BAD);
        due("5", x.kind(5), BAD);
    }

    private static void promise31() {
        promise = 31;
        due("no coast", new StormNames().as(0, 0), BAD);
        StormNames x = Due.coastOf("s1,1;o1,1;w1,1;p1,1;l1,1;m1,1;");
        String[] is = {"0 4 5", "0 4", "0 1 3", "0 1 2", "0 1"};
        for (int s = 0; s < 5; s++) {
            for (int kind = 0; kind < 6; kind++) {
                boolean one = is[s].indexOf((char) ('0' + kind)) >= 0;
                due("as(" + s + ", " + kind + ")", x.as(s, kind), one ? s : KIND);
                due("status", x.status(), one ? 0 : 3);
            }
        }
        x.as(4, 2);
        due("soul -1", x.as(-1, 0), BAD);
        due("soul 5", x.as(5, 0), BAD);
        due("kind -1", x.as(0, -1), BAD);
        due("kind 6", x.as(0, 6), BAD);
        due("status stays", x.status(), 3);
    }

    private static void answers(StormNames x, int s, int what, int want, int... bodies) {
        due("ask(" + s + ", " + what + ")", x.ask(s, what), want);
        for (int i = 0; i < bodies.length; i++) {
            due("trace(" + i + ") of ask(" + s + ", " + what + ")", x.trace(i), bodies[i]);
        }
        due("the end of the trace", x.trace(bodies.length), NONE);
    }

    private static void promise32() {
        promise = 32;
        due("no coast", new StormNames().ask(0, 0), BAD);
        StormNames x = Due.coastOf("s1,1;m12,20;l18,9;p9,30;w10,14;o3,7;");
        answers(x, 0, 0, 32, 11, 10, 21, 20);
        answers(x, 0, 1, 12, 21, 20);
        answers(x, 1, 0, -47, 12, 11, 10, 24, 21, 20);
        answers(x, 1, 1, 38, 24, 21, 20);
        answers(x, 2, 0, -959, 11, 10, 22, 21, 20);
        answers(x, 2, 1, -989, 22, 21, 20);
        answers(x, 3, 0, -86, 13, 10);
        answers(x, 3, 1, 89, 23, 20, 13, 10);
        answers(x, 4, 0, -186, 14, 13, 10);
        answers(x, 4, 1, 190, 23, 20, 14, 13, 10);
        due("soul -1", x.ask(-1, 0), BAD);
        due("soul 5", x.ask(5, 0), BAD);
        due("what -1", x.ask(0, -1), BAD);
        due("what 2", x.ask(0, 2), BAD);
        due("the trace stays", x.trace(2), 14);
        x.mend(3, 1);
        x.confess(0);
        due("roofs now", x.ask(3, 0), -85);
        due("guilt now", x.ask(0, 1), 6);
        due("no act, no finding", x.status(), 0);
    }

    private static void promise33() {
        promise = 33;
        StormNames x = Due.coastOf(FIVE);
        due("before an ask", x.trace(0), NONE);
        x.ask(1, 0);
        due("0", x.trace(0), 12);
        due("5", x.trace(5), 20);
        due("6", x.trace(6), NONE);
        due("-1", x.trace(-1), NONE);
        due("16", x.trace(16), NONE);
        due("the greatest", x.trace(Integer.MAX_VALUE), NONE);
        due("the least", x.trace(Integer.MIN_VALUE), NONE);
        x.ask(3, 0);
        due("a shorter one", x.trace(2), NONE);
    }

    private static void promise34() {
        promise = 34;
        StormNames x = Due.coastOf("s40,2;m12,20;l18,9;p9,30;");
        x.row(2, 0, 1);
        x.row(5, 0, 1);
        x.row(6, 0, 0);
        x.hours(4);
        x.feed('s');
        int[] due = {3, 3, 4, 32, 1, 0, 2, 28, 4, 1};
        for (int what = 0; what < due.length; what++) {
            due("count(" + what + ")", x.count(what), due[what]);
        }
        due("-1", x.count(-1), BAD);
        due("10", x.count(10), BAD);
    }

    private static void promise35() {
        promise = 35;
        StormNames x = Due.coastOf(FIVE);
        due("at first", x.status(), 0);
        x.set(0, 0, 0);
        due("NULL", x.status(), 1);
        x.confess(9);
        x.undo();
        x.feed(256);
        x.hours(1);
        x.ask(0, 0);
        x.drop(9);
        due("other calls, and BAD, leave it", x.status(), 1);
        x.row(0, 0, -1);
        due("SIZE", x.status(), 4);
        x.row(0, 0, 2);
        due("none", x.status(), 0);
        x.set(0, 2, 0);
        due("PLACE", x.status(), 2);
        x.as(0, 5);
        due("KIND", x.status(), 3);
        x.as(0, 1);
        due("none", x.status(), 0);
        x.row(1, 1, 2);
        x.copy(0, 0, 1, 0, 0);
        due("STORE", x.status(), 5);
        x.copy(0, 0, 0, 0, 0);
        due("none", x.status(), 0);
        x.drop(3);
        due("NULL", x.status(), 1);
        x.drop(1);
        due("none", x.status(), 0);
        x.fits(0, 1, 0, 1, 0);
        due("NULL", x.status(), 1);
        due("twice", x.status(), 1);
    }
}
