/** The sentences on what is foretold. */
final class ForetoldBoundaries {
    private static final int NONE = -1000000, BAD = -1000001, STATE = -1000002, NULL = -1000011, PLACE = -1000012;
    private static final int LEAST = Integer.MIN_VALUE, MOST = Integer.MAX_VALUE;
    private static final String TWO = "s5,0;m0,30;m0,30;";
    private final Sentences doc;

    ForetoldBoundaries(Sentences doc) {
        this.doc = doc;
    }

    void run() {
        cutOrFraction();
        hoursOn();
        promise16();
        promise17();
        still();
        bare();
        list();
        order();
        orderOfThem();
        named();
        premium();
        rowTells();
        forces();
        placesWaysCalms();
        promise24();
        drop();
        owning();
        yearsDrawn();
        yearsPlayed();
        promise27();
        images();
    }

    /** Without a coast each of these answers STATE, whatever its numbers are. */
    private void needsCoast(String told, Sentences.Call call, int... numbers) {
        for (int number : numbers) {
            doc.refused("no coast, " + told + " " + number, Scenes::noCoast, x -> call.of(x, number), STATE);
        }
        doc.due("nothing", call.of(Scenes.nothing(), numbers[0]), STATE);
    }

    private void cutOrFraction() {
        doc.terms("All that is divided is cut towards 0, but fractions, told as two numbers in lowest terms (0 is 0 by 1).");
        StormNames x = Due.coastOf("s59,0;l19,30;m1,1;");
        doc.due("half of 19", x.soul(0, 2), 9);
        doc.due("a fifth of 59", x.later(1, 2), 11);
        doc.due("a premium", x.premium(1, 30), 0);
        x = Due.coastOf("s10,0;m10,1;");
        int[][] tenths = {{0, 1}, {1, 10}, {1, 5}, {3, 10}, {2, 5}, {1, 2}, {3, 5}, {7, 10}, {4, 5}, {9, 10}, {1, 1}};
        for (int c = 0; c <= 10; c++) {
            doc.due(c + " of 10, above", x.owning(0, c, 0), tenths[c][0]);
            doc.due(c + " of 10, below", x.owning(0, c, 1), tenths[c][1]);
        }
    }

    private void hoursOn() {
        doc.terms("FORETOLD (nothing changes) d HOURS on (0 to 60): ROOFS of a SOUL; FORCE; the PLACE of THE STORM; "
            + "what is LOST.");
        StormNames x = Scenes.standing();
        for (int k = 0; k < 2; k++) {
            x.roofs(6, 60);
            x.later(60, k);
            x.still();
            x.bare(k);
            x.list(0, k);
            x.order(k);
            x.named(30, k);
            x.premium(k, 999);
            x.dropped(k, 9, k);
            x.owning(9, 9, k);
            x.drawn(60, 999999, k);
        }
        doc.same("what stands then", Seen.all(x), Seen.all(Scenes.standing()));
        x = Due.coastOf(TWO);
        int[][] roofs = {{0, 30, 30}, {1, 29, 30}, {2, 29, 29}, {58, 1, 1}, {59, 1, 0}, {60, 0, 0}};
        for (int[] one : roofs) {
            doc.due("roofs of 0, hour " + one[0], x.roofs(0, one[0]), one[1]);
            doc.due("roofs of 1, hour " + one[0], x.roofs(1, one[0]), one[2]);
        }
        int[][] places = {{0, 0}, {1, 1}, {2, 1}, {3, 0}, {4, 0}, {58, 1}, {59, 0}, {60, 0}};
        for (int[] one : places) {
            doc.due("force, hour " + one[0], x.later(one[0], 0), 5);
            doc.due("place, hour " + one[0], x.later(one[0], 1), one[1]);
            doc.due("lost, hour " + one[0], x.later(one[0], 2), one[0]);
        }
    }

    private void promise16() {
        doc.promise(16, "ROOFS of a SOUL.");
        StormNames x = Scenes.standing();
        doc.due("the first, now", x.roofs(0, 0), 12);
        doc.due("the last, now", x.roofs(6, 0), 25);
        doc.due("the third, 1 on", x.roofs(2, 1), 23);
        doc.promise(16, "BAD.");
        doc.range("soul", Scenes::standing, 0, 6, (y, soul) -> y.roofs(soul, 0));
        doc.range("d", Scenes::standing, 0, 60, (y, d) -> y.roofs(0, d));
        doc.refused("no coast", Scenes::noCoast, y -> y.roofs(0, 0), BAD);
    }

    private void promise17() {
        doc.promise(17, "FORCE (what = 0), the PLACE (1), LOST (2), d HOURS on.");
        StormNames x = Scenes.standing();
        int[][] due = {{0, 36, 2, 15}, {1, 34, 1, 22}, {2, 32, 0, 24}, {3, 30, 0, 30}, {18, 0, 1, 59}, {60, 0, 1, 59}};
        for (int[] one : due) {
            doc.due("force, " + one[0] + " on", x.later(one[0], 0), one[1]);
            doc.due("place, " + one[0] + " on", x.later(one[0], 1), one[2]);
            doc.due("lost in all, " + one[0] + " on", x.later(one[0], 2), one[3]);
        }
        doc.promise(17, "BAD; STATE: no COAST (ahead of BAD).");
        doc.range("d", Scenes::standing, 0, 60, (y, d) -> y.later(d, 0));
        doc.range("what", Scenes::standing, 0, 2, (y, what) -> y.later(0, what));
        needsCoast("d", (y, d) -> y.later(d, 0), 0, -1, 61);
        needsCoast("what", (y, what) -> y.later(0, what), 2, -1, 3);
    }

    private void still() {
        doc.terms("STILL: behind how many HOURS (0 to 60) FORCE is 0 first; NONE.");
        int[][] due = {{0, 0, 0}, {0, 5, 0}, {60, 1, 60}, {59, 1, 59}, {60, 5, 12}, {59, 5, 12}, {56, 5, 12}, {55, 5, 11},
            {5, 5, 1}, {4, 5, 1}, {6, 5, 2}, {60, 0, NONE}, {1, 0, NONE}};
        for (int[] one : due) {
            doc.due("force " + one[0] + ", calm " + one[1], Due.coastOf("s" + one[0] + "," + one[1] + ";m1,1;").still(), one[2]);
        }
        doc.promise(18, "STILL; NONE.");
        StormNames x = Scenes.standing();
        doc.due("still", x.still(), 18);
        x.raise(60, 0);
        doc.due("still", x.still(), 30);
        x.raise(0, 0);
        doc.due("now", x.still(), 0);
        doc.promise(18, "STATE: no COAST.");
        needsCoast("still", (y, any) -> y.still(), 0);
    }

    private void bareIs(String text, int who, int when) {
        StormNames x = Due.coastOf(text);
        doc.due("who is bare first of " + text, x.bare(0), who);
        doc.due("when, of " + text, x.bare(1), when);
    }

    private void bare() {
        doc.terms("BARE: the SOUL that has no ROOFS first, of several the least; behind how many HOURS (0 to 60); NONE.");
        bareIs("s0,0;m1,0;", 0, 0);
        bareIs("s60,0;m1,1;m1,0;m1,0;", 1, 0);
        bareIs("s60,0;m1,12;m1,1;", 0, 1);
        bareIs("s60,0;m1,13;m1,1;", 1, 2);
        bareIs("s5,0;m1,29;", 0, 29);
        bareIs(TWO, 1, 59);
        bareIs("s5,0;m1,20;m1,30;m1,30;", 0, 60);
        bareIs("s5,0;m1,21;m1,30;m1,30;", NONE, NONE);
        bareIs("s4,0;m1,1;", NONE, NONE);
        bareIs("s9,5;m1,2;m1,2;", NONE, NONE);
        doc.promise(19, "BARE: which (what = 0), behind how many HOURS (1); NONE.");
        StormNames x = Scenes.standing();
        doc.due("which", x.bare(0), 4);
        doc.due("when", x.bare(1), 0);
        x.mend(4, 30);
        doc.due("which", x.bare(0), 1);
        doc.due("when", x.bare(1), 2);
        doc.promise(19, "BAD; STATE: no COAST (ahead of BAD).");
        doc.range("what", Scenes::standing, 0, 1, StormNames::bare);
        needsCoast("what", StormNames::bare, 0, -1, 2);
    }

    private void listIs(String text, int w, int many, int which) {
        StormNames x = Due.coastOf(text);
        doc.due("how many for " + w + " of " + text, x.list(w, 0), many);
        doc.due("which for " + w + " of " + text, x.list(w, 1), which);
    }

    private void list() {
        doc.terms("LIST for w (0 to 60): the fewest SOULS whose CONFESSIONS now, one behind the other by their numbers, "
            + "make FORCE w or less: how many; which (bits), of several the least; NONE.");
        listIs("s40,0;m12,1;", 60, 0, 0);
        listIs("s40,0;m12,1;", 40, 0, 0);
        listIs("s40,0;m12,1;", 39, 1, 1);
        listIs("s40,0;m12,1;", 28, 1, 1);
        listIs("s40,0;m12,1;", 27, NONE, NONE);
        listIs("s0,0;m12,1;", 0, 0, 0);
        listIs("s20,0;m5,1;m10,1;m10,1;m15,1;", 0, 2, 6);
        listIs("s20,0;m5,1;m5,1;m10,1;m20,1;", 0, 1, 8);
        listIs("s40,0;m9,1;m20,1;", 20, 1, 2);
        listIs("s40,0;m9,1;m20,1;", 19, NONE, NONE);
        listIs("s40,0;m20,1;m9,1;", 11, 2, 3);
        listIs("s7,0;m1,1;m1,1;m1,1;m1,1;m1,1;m1,1;m1,1;", 0, 7, 127);
        listIs("s60,0;m14,1;", 59, NONE, NONE);
        listIs("s60,0;m14,1;", 60, 0, 0);
        doc.promise(20, "LIST: how many (what = 0), which (1); NONE.");
        StormNames x = Scenes.standing();
        doc.due("how many for 16", x.list(16, 0), 1);
        doc.due("which for 16", x.list(16, 1), 32);
        doc.due("how many for 15", x.list(15, 0), 2);
        doc.due("which for 15", x.list(15, 1), 3);
        doc.promise(20, "BAD; STATE: no COAST (ahead of BAD).");
        doc.range("w", Scenes::standing, 0, 60, (y, w) -> y.list(w, 0));
        doc.range("what", Scenes::standing, 0, 1, (y, what) -> y.list(0, what));
        needsCoast("w", (y, w) -> y.list(w, 0), 60, -1, 61);
        needsCoast("what", (y, what) -> y.list(0, what), 1, -1, 2);
    }

    private void orderIs(String text, int force, int... souls) {
        StormNames x = Due.coastOf(text);
        doc.due("force by the order of " + text, x.order(-1), force);
        for (int k = 0; k < souls.length; k++) {
            doc.due("number " + k + " of the order of " + text, x.order(k), souls[k]);
        }
        doc.due("no more in the order of " + text, x.order(souls.length), NONE);
    }

    private void order() {
        doc.terms("ORDER: of all rows of CONFESSIONS now, each SOUL once at most, that by which FORCE is least, "
            + "of several the shortest, of these the first (by numbers): how much FORCE; who is the k-th.");
        orderIs("s0,0;m5,1;", 0);
        orderIs("s60,0;m14,1;m14,1;", 60);
        orderIs("s10,0;m0,1;l1,1;", 10);
        orderIs("s40,0;m10,1;", 30, 0);
        orderIs("s40,0;m9,1;m20,1;", 11, 1, 0);
        orderIs("s20,0;m10,1;m10,1;m20,1;", 0, 2);
        orderIs("s20,0;m10,1;m10,1;m10,1;", 0, 0, 1);
        orderIs("s20,0;m5,1;m15,1;m5,1;m15,1;", 0, 0, 1);
        orderIs("s7,0;m1,1;m1,1;m1,1;m1,1;m1,1;m1,1;m1,1;", 0, 0, 1, 2, 3, 4, 5, 6);
        orderIs("s40,0;w10,1;m10,1;", 15, 0, 1);
        orderIs("s40,0;m10,1;w10,1;", 15, 1, 0);
        orderIs("s59,0;m1,1;m13,1;m14,1;m2,1;", 32, 2, 1);
        orderIs("s37,0;w18,1;w16,1;l7,1;", 3, 1, 0, 2);
    }

    private void orderOfThem() {
        doc.promise(21, "ORDER: how much FORCE (k = -1), the k-th (0 on; NONE: not so many).");
        StormNames x = Scenes.standing();
        doc.due("force", x.order(-1), 0);
        int[] due = {0, 1, 5, NONE, NONE};
        for (int k = 0; k < due.length; k++) {
            doc.due("number " + k, x.order(k), due[k]);
        }
        doc.due("not so many", x.order(7), NONE);
        doc.due("not so many", x.order(MOST), NONE);
        doc.promise(21, "BAD: k below -1; STATE: no COAST (ahead of BAD).");
        doc.refused("k -2", Scenes::standing, y -> y.order(-2), BAD);
        doc.refused("the least k", Scenes::standing, y -> y.order(LEAST), BAD);
        needsCoast("k", StormNames::order, -1, -2, 0, LEAST, MOST);
    }

    private void namedIs(String text, int n, int who, int lost) {
        StormNames x = Due.coastOf(text);
        doc.due("who, in " + n + " hours of " + text, x.named(n, 0), who);
        doc.due("how much, in " + n + " hours of " + text, x.named(n, 1), lost);
    }

    private void named() {
        doc.terms("NAMED for n HOURS (1 to 30): the SOUL whose CONFESSION now lets least be LOST in them, less than without "
            + "one, of several the least: who; how much (in them alone); NONE.");
        namedIs("s10,0;m5,30;", 1, 0, 1);
        namedIs("s5,0;m1,30;", 30, 0, 0);
        namedIs("s10,0;m2,30;m5,30;m5,30;", 1, 0, 1);
        namedIs("s15,0;m3,30;m15,30;m15,30;", 1, 1, 0);
        namedIs("s4,0;m1,30;", 30, NONE, NONE);
        namedIs("s5,0;m0,30;", 1, NONE, NONE);
        namedIs("s14,0;m2,30;", 1, NONE, NONE);
        namedIs("s60,0;m20,0;", 9, NONE, NONE);
        namedIs("s60,0;m20,8;", 1, NONE, NONE);
        namedIs("s60,0;m20,9;", 1, 0, 8);
        namedIs("s5,0;m0,30;m1,30;", 1, 1, 0);
        doc.promise(22, "NAMED: who (what = 0), how much (1); NONE.");
        StormNames x = Scenes.standing();
        doc.due("who", x.named(1, 0), 5);
        doc.due("in them alone, though 15 are lost", x.named(1, 1), 3);
        x.raise(0, 0);
        doc.due("none", x.named(30, 0), NONE);
        doc.due("none", x.named(30, 1), NONE);
        doc.promise(22, "BAD; STATE: no COAST (ahead of BAD).");
        doc.range("n", Scenes::standing, 1, 30, (y, n) -> y.named(n, 0));
        doc.range("what", Scenes::standing, 0, 1, (y, what) -> y.named(1, what));
        needsCoast("n", (y, n) -> y.named(n, 0), 1, 0, 31);
        needsCoast("what", (y, what) -> y.named(1, what), 1, -1, 2);
    }

    private void premiumsAre(String text, int n, int... parts) {
        StormNames x = Due.coastOf(text);
        for (int s = 0; s < parts.length; s++) {
            doc.due("of " + n + ", soul " + s + " of " + text, x.premium(s, n), parts[s]);
        }
    }

    private void premium() {
        doc.terms("PREMIUM of a SOUL, n in all (0 to 999): n times its ROOFS, by ROOFS of all (cut), "
            + "what is over 1 each to the first of these that have ROOFS; 0, if there are none.");
        premiumsAre(Scenes.SEVEN, 0, 0, 0, 0, 0, 0, 0, 0);
        premiumsAre(Scenes.SEVEN, 1, 1, 0, 0, 0, 0, 0, 0);
        premiumsAre(Scenes.SEVEN, 103, 20, 9, 30, 14, 0, 5, 25);
        premiumsAre(Scenes.SEVEN, 999, 194, 88, 291, 136, 0, 48, 242);
        String even = "s0,0;m0,30;m0,30;m0,30;m0,30;m0,30;m0,30;m0,30;";
        premiumsAre(even, 999, 143, 143, 143, 143, 143, 142, 142);
        premiumsAre(even, 6, 1, 1, 1, 1, 1, 1, 0);
        premiumsAre(even, 7, 1, 1, 1, 1, 1, 1, 1);
        premiumsAre("s0,0;m0,0;m0,1;m0,0;m0,1;m0,1;", 2, 0, 1, 0, 1, 0);
        premiumsAre("s0,0;m0,0;m0,1;", 999, 0, 999);
        premiumsAre("s0,0;m0,0;m0,0;", 999, 0, 0);
        premiumsAre("s0,0;m0,0;", 0, 0);
        doc.promise(23, "PREMIUM.");
        StormNames x = Due.coastOf("s60,0;m0,12;m0,30;");
        doc.due("of 8", x.premium(0, 8), 3);
        x.hours(1);
        doc.due("none by now", x.premium(0, 8), 0);
        doc.due("all by now", x.premium(1, 8), 8);
        doc.promise(23, "BAD.");
        doc.range("soul", Scenes::standing, 0, 6, (y, soul) -> y.premium(soul, 1));
        doc.range("n", Scenes::standing, 0, 999, (y, n) -> y.premium(0, n));
        doc.refused("no coast", Scenes::noCoast, y -> y.premium(0, 0), BAD);
    }

    /** A coast with a row of ints. */
    private static StormNames told(String text, int... items) {
        StormNames x = Due.coastOf(text);
        Scenes.row(x, 0, 2, items);
        return x;
    }

    private void rowTells() {
        doc.terms("A row tells ROOFS of a SOUL behind each of n HOURS (1 to 12) from now on.");
        StormNames x = told("s5,0;m0,30;", 30, 29, 28);
        doc.due("behind one hour, not now", x.fits(0, 0, 0, 1, 1), 0);
        doc.due("29 behind one", x.fits(0, 0, 1, 1, 1), 5);
        doc.due("29, 28", x.fits(0, 0, 1, 2, 1), 5);
        doc.due("30, 29 is never", x.fits(0, 0, 0, 2, 0), 0);
        x = told("s5,0;m0,30;", 29, 28, 27, 26, 25, 24, 23, 22, 21, 20, 19, 18);
        doc.due("twelve", x.fits(0, 0, 0, 12, 0), 5);
        x.set(0, 11, 17);
        doc.due("not the twelfth", x.fits(0, 0, 0, 12, 0), 0);
        doc.due("eleven", x.fits(0, 0, 0, 11, 0), 5);
        x.set(0, 0, 30);
        doc.due("not the first", x.fits(0, 0, 0, 11, 0), 0);
        doc.due("no roofs below 0", told("s0,0;m0,0;", -1).fits(0, 0, 0, 1, 0), 0);
    }

    private void forces() {
        doc.terms("FORCES (0 to 60): how many by which it is so; the least; NONE;");
        String text = "s22,0;m0,30;";
        int[][] due = {{30, 5, 0}, {29, 5, 5}, {19, 5, 55}, {18, 1, 60}, {17, 0, NONE}, {31, 0, NONE}};
        for (int[] one : due) {
            StormNames x = told(text, one[0]);
            doc.due("how many by " + one[0], x.fits(0, 0, 0, 1, 0), one[1]);
            doc.due("the least by " + one[0], x.fits(0, 0, 0, 1, 1), one[2]);
            doc.due("no finding", x.status(), 0);
        }
        doc.due("all", told("s22,0;m0,0;", 0).fits(0, 0, 0, 1, 0), 61);
        doc.due("the least of all", told("s22,0;m0,0;", 0).fits(0, 0, 0, 1, 1), 0);
    }

    private void placesWaysCalms() {
        doc.terms("PLACES (bits) of THE STORM; WAYS (bits 0, 1); CALMS (0 to 5, bits).");
        String seven = "s5,0;m0,9;m0,9;m0,9;m0,9;m0,9;m0,9;m0,9;";
        doc.due("the first place", told(seven, 8).fits(0, 0, 0, 1, 2), 1);
        doc.due("the last place", told(seven, 8).fits(6, 0, 0, 1, 2), 64);
        doc.due("all but the last", told(seven, 9).fits(6, 0, 0, 1, 2), 63);
        doc.due("no place", told(seven, 7).fits(6, 0, 0, 1, 2), 0);
        doc.due("alone", told("s5,0;m0,9;", 8).fits(0, 0, 0, 1, 2), 1);
        doc.due("down, it stays", told(TWO, 29, 28).fits(0, 0, 0, 2, 3), 1);
        doc.due("up, it goes", told(TWO, 29, 29).fits(0, 0, 0, 2, 3), 2);
        doc.due("both ways", told(TWO, 29).fits(0, 0, 0, 1, 3), 3);
        doc.due("no way", told(TWO, 28).fits(0, 0, 0, 1, 3), 0);
        doc.due("calm 0", told("s60,3;m0,30;", 18, 6).fits(0, 0, 0, 2, 4), 1);
        doc.due("calms 1 to 5", told("s60,3;m0,30;", 18, 7).fits(0, 0, 0, 2, 4), 62);
        doc.due("calm 5", told("s30,3;m0,30;", 24, 19, 15, 12, 10, 9).fits(0, 0, 0, 6, 4), 32);
        doc.due("all calms", told("s60,3;m0,30;", 18).fits(0, 0, 0, 1, 4), 63);
        doc.due("no calm", told("s60,3;m0,30;", 17).fits(0, 0, 0, 1, 4), 0);
    }

    private void promise24() {
        doc.promise(24, "FORCES: how many (what = 0), the least (1; NONE), PLACES (2), WAYS (3), CALMS (4) by ROOFS of a SOUL, "
            + "n ITEMS of a ROW from i on.");
        StormNames x = told("s10,1;m0,30;m0,30;", 7, 28, 28, 7);
        int[] due = {5, 10, 1, 2, 63};
        for (int what = 0; what < due.length; what++) {
            doc.due("from 1 on, two, what " + what, x.fits(0, 0, 1, 2, what), due[what]);
        }
        doc.due("the least, NONE", x.fits(0, 0, 2, 2, 1), NONE);
        doc.due("nothing changes", x.count(3), 10);
        doc.promise(24, "BAD: SOUL, ROW, n, what; NULL; PLACE.");
        doc.range("row", Scenes::standing, 0, 7, (y, row) -> y.fits(0, row, 0, 1, 0));
        doc.range("n", Scenes::standing, 1, 12, (y, n) -> y.fits(0, 0, 0, n, 0));
        doc.range("what", Scenes::standing, 0, 4, (y, what) -> y.fits(0, 0, 0, 1, what));
        doc.range("soul", Scenes::standing, 0, 6, (y, soul) -> y.fits(soul, 0, 0, 1, 0));
        doc.refused("no coast", Scenes::noCoast, y -> y.fits(0, 0, 0, 1, 0), BAD);
        doc.refused("BAD n ahead of NULL", Scenes::standing, y -> y.fits(0, 6, 0, 13, 0), BAD);
        doc.refused("BAD what ahead of PLACE", Scenes::standing, y -> y.fits(0, 0, -1, 1, 5), BAD);
        doc.refused("missing", Scenes::standing, y -> y.fits(0, 6, 0, 1, 0), NULL);
        doc.refused("NULL ahead of PLACE", Scenes::standing, y -> y.fits(0, 6, 40, 1, 0), NULL);
        int[][] nowhere = {{-1, 1}, {0, 5}, {1, 4}, {3, 2}, {4, 1}, {0, 12}, {LEAST, 12}, {MOST, 1}, {MOST, 12}};
        for (int[] one : nowhere) {
            doc.refused("i " + one[0] + ", n " + one[1], Scenes::standing, y -> y.fits(0, 0, one[0], one[1], 0), PLACE);
        }
        doc.due("up to the end", Scenes.standing().fits(0, 0, 0, 4, 0), 0);
        doc.due("the last", Scenes.standing().fits(3, 0, 3, 1, 0), 61);
        doc.due("12 to the end of 40", Scenes.standing().fits(0, 7, 28, 12, 0), 0);
        doc.refused("12 beyond the end of 40", Scenes::standing, y -> y.fits(0, 7, 29, 12, 0), PLACE);
    }

    private void drop() {
        doc.terms("By a DROP of x (-2 to 60) a CONFESSION now made FORCE so much less: KINDS (bits 1 to 5) of a SOUL by which it "
            + "would; GUILTS (0 to 20, bits).");
        StormNames x = Due.coastOf("s60,0;o20,1;");
        int[][] kinds = {{28, 32}, {25, 16}, {20, 10}, {10, 4}, {0, 0}, {-2, 0}, {60, 0}};
        for (int[] one : kinds) {
            doc.due("kinds by " + one[0], x.dropped(0, one[0], 0), one[1]);
        }
        int[][] guilts = {{28, 1 << 20}, {27, 3 << 18}, {26, 3 << 16}, {25, 1 << 15}, {0, (1 << 15) - 1}, {-1, 0}, {60, 0}};
        for (int[] one : guilts) {
            doc.due("guilts by " + one[0], x.dropped(0, one[0], 1), one[1]);
        }
        x.raise(59, 0);
        doc.due("60 at most", x.dropped(0, -1, 1), (1 << 14) - 1);
        x.raise(58, 0);
        doc.due("2 more", x.dropped(0, -2, 1), (1 << 14) - 1);
        x = Due.coastOf("s0,0;m0,1;");
        doc.due("no force, any kind", x.dropped(0, 0, 0), 62);
        doc.due("no force, any guilt", x.dropped(0, 0, 1), (1 << 21) - 1);
        doc.due("no force, none", x.dropped(0, 1, 1), 0);
        x.raise(5, 0);
        doc.due("0 at least", x.dropped(0, 5, 1), (1 << 21) - (1 << 5));
        doc.due("any kind of such guilt", x.dropped(0, -2, 0), 62);
        doc.promise(25, "DROP: KINDS (what = 0), GUILTS (1).");
        x = Scenes.standing();
        doc.due("kinds", x.dropped(0, 12, 0), 10);
        doc.due("guilts", x.dropped(0, 12, 1), 1 << 12);
        doc.promise(25, "BAD.");
        doc.range("soul", Scenes::standing, 0, 6, (y, soul) -> y.dropped(soul, 0, 0));
        doc.range("x", Scenes::standing, -2, 60, (y, by) -> y.dropped(0, by, 0));
        doc.range("what", Scenes::standing, 0, 1, (y, what) -> y.dropped(0, 0, what));
        doc.refused("no coast", Scenes::noCoast, y -> y.dropped(0, 0, 0), BAD);
    }

    private void owningIs(String text, int w, int c, int above, int below) {
        StormNames x = Due.coastOf(text);
        doc.due("above, " + w + " by " + c + " of " + text, x.owning(w, c, 0), above);
        doc.due("below, " + w + " by " + c + " of " + text, x.owning(w, c, 1), below);
    }

    private void owning() {
        doc.terms("OWNING: each SOUL makes a CONFESSION now by c of 10, each by itself, one behind the other by their numbers: "
            + "that FORCE is w (0 to 60) or less then: a fraction.");
        owningIs("s10,0;m10,1;m10,1;", 0, 1, 19, 100);
        owningIs("s10,0;m10,1;m10,1;", 0, 9, 99, 100);
        owningIs("s10,0;m10,1;m10,1;", 9, 0, 0, 1);
        owningIs("s10,0;m10,1;m10,1;", 10, 0, 1, 1);
        owningIs("s10,0;m10,1;m10,1;", 60, 5, 1, 1);
        owningIs("s10,0;m4,1;", 6, 10, 1, 1);
        owningIs("s10,0;m4,1;", 5, 10, 0, 1);
        owningIs("s40,0;m9,1;m20,1;", 22, 10, 1, 1);
        owningIs("s40,0;m9,1;m20,1;", 21, 10, 0, 1);
        owningIs("s60,0;m0,1;", 59, 10, 0, 1);
        owningIs("s60,0;m0,1;", 60, 10, 1, 1);
        owningIs("s9,0;m9,1;m9,1;m9,1;m9,1;m9,1;m9,1;m9,1;", 0, 1, 5217031, 10000000);
        owningIs("s9,0;m9,1;m9,1;m9,1;m9,1;m9,1;m9,1;m9,1;", 0, 9, 9999999, 10000000);
        owningIs("s9,0;m9,1;m9,1;m9,1;m9,1;m9,1;m9,1;m9,1;", 0, 5, 127, 128);
        doc.promise(26, "OWNING (c 0 to 10): above (what = 0), below (1).");
        StormNames x = Due.coastOf("s10,0;m10,1;");
        doc.due("above by 0", x.owning(0, 0, 0), 0);
        doc.due("below by 0", x.owning(0, 0, 1), 1);
        doc.due("above by 10", x.owning(0, 10, 0), 1);
        doc.due("below by 10", x.owning(0, 10, 1), 1);
        doc.promise(26, "BAD; STATE: no COAST (ahead of BAD).");
        doc.range("w", Scenes::standing, 0, 60, (y, w) -> y.owning(w, 1, 0));
        doc.range("c", Scenes::standing, 0, 10, (y, c) -> y.owning(0, c, 0));
        doc.range("what", Scenes::standing, 0, 1, (y, what) -> y.owning(0, 0, what));
        needsCoast("w", (y, w) -> y.owning(w, 0, 0), 0, -1, 61);
        needsCoast("c", (y, c) -> y.owning(0, c, 0), 10, -1, 11);
        needsCoast("what", (y, what) -> y.owning(0, 0, what), 1, -1, 2);
    }

    private void drawnIs(String text, int n, int seed, int lost, int bare) {
        StormNames x = Due.coastOf(text);
        doc.due("lost in " + n + " by " + seed + " of " + text, x.drawn(n, seed, 0), lost);
        doc.due("bare in " + n + " by " + seed + " of " + text, x.drawn(n, seed, 1), bare);
    }

    private void yearsDrawn() {
        doc.terms("YEARS of n HOURS (0 to 60) by a SEED (X at first): ahead of each X becomes the rest of (X times 16807) "
            + "by 2147483647;");
        // 1 gives 16807, 282475249; 999999 gives 1774597664, 1410049312, 1216742139
        drawnIs("s60,0;m0,30;m0,0;", 0, 1, 0, 1);
        drawnIs("s60,0;m0,0;m0,0;", 0, 999999, 0, 2);
        drawnIs("s0,0;m0,30;m0,12;", 1, 999999, 12, 0);
        drawnIs("s0,0;m0,30;m0,12;", 2, 999999, 24, 1);
        drawnIs("s0,0;m0,30;m0,12;", 3, 999999, 24, 1);
        drawnIs("s60,0;m0,30;", 60, 1, 30, 1);
        drawnIs("s4,0;m0,30;", 1, 1, 0, 0);
        doc.terms("if FORCE is 0, THE STORM is raised, FORCE the rest of X by 61, PLACE the rest of X by how many there are;");
        // 61 gives 1025227, which 61 divides, and 51121013; 3 gives 50421, which 3 divides
        drawnIs("s0,0;m0,30;m0,6;", 1, 1, 6, 1);
        drawnIs("s0,0;m0,30;m0,4;", 1, 61, 0, 0);
        drawnIs("s0,0;m0,30;m0,4;", 2, 61, 4, 1);
        drawnIs("s0,0;m20,30;", 1, 3, 7, 0);
        drawnIs("s1,0;m0,30;", 1, 1, 0, 0);
        drawnIs("s1,1;m0,30;", 2, 1, 9, 0);
    }

    private void yearsPlayed() {
        doc.terms("else, if X by 3 leaves 0, the SOUL that is the rest of X by how many there are makes a CONFESSION;");
        drawnIs("s20,0;m0,30;m20,5;", 1, 3, 0, 0);
        drawnIs("s23,0;m20,30;m0,5;", 1, 3, 5, 0);
        drawnIs("s23,0;m20,30;m0,5;", 1, 1, 4, 0);
        drawnIs("s25,0;m10,30;", 2, 3, 5, 0);
        doc.terms("then the HOUR: what is LOST in them alone; how many are bare at last.");
        StormNames x = Due.coastOf("s60,0;m0,12;m0,12;m0,12;");
        x.hours(1);
        doc.due("none in no hours", x.drawn(0, 1, 0), 0);
        doc.due("bare now", x.drawn(0, 1, 1), 1);
        doc.due("in one", x.drawn(1, 1, 0), 12);
        doc.due("bare then", x.drawn(1, 1, 1), 2);
        doc.due("nothing changes", x.count(7), 12);
        drawnIs("s5,5;m0,1;", 1, 1, 1, 1);
    }

    private void promise27() {
        doc.promise(27, "YEARS by a SEED (1 to 999999): LOST (what = 0), how many are bare (1).");
        StormNames x = Due.coastOf("s0,0;m0,6;m0,6;");
        doc.due("lost by 1", x.drawn(1, 1, 0), 6);
        doc.due("bare by 1", x.drawn(1, 1, 1), 1);
        doc.due("lost by 999999", x.drawn(2, 999999, 0), 12);
        doc.due("bare by 999999", x.drawn(2, 999999, 1), 2);
        doc.promise(27, "BAD; STATE: no COAST (ahead of BAD).");
        doc.range("n", Scenes::standing, 0, 60, (y, n) -> y.drawn(n, 1, 0));
        doc.range("seed", Scenes::standing, 1, 999999, (y, seed) -> y.drawn(1, seed, 0));
        doc.range("what", Scenes::standing, 0, 1, (y, what) -> y.drawn(1, 1, what));
        needsCoast("n", (y, n) -> y.drawn(n, 1, 0), 0, -1, 61);
        needsCoast("seed", (y, seed) -> y.drawn(1, seed, 0), 1, 0, 1000000);
        needsCoast("what", (y, what) -> y.drawn(1, 1, what), 1, -1, 2);
    }

    private void images() {
        doc.promise(28, "An IMAGE (0, 1) is kept of the COAST: 1.");
        StormNames x = Scenes.standing();
        String first = Seen.coast(x);
        doc.due("image 1", x.image(1), 1);
        doc.due("acts stay", x.count(8), 3);
        x.hours(1);
        String second = Seen.coast(x);
        doc.due("image 0, in place of another", x.image(0), 1);
        x.confess(0);
        x.restore(1);
        doc.same("image 1", Seen.coast(x), first);
        x.restore(0);
        doc.same("image 0", Seen.coast(x), second);
        doc.promise(28, "BAD; STATE: no COAST.");
        doc.range("image", Scenes::standing, 0, 1, StormNames::image);
        doc.refused("no coast", Scenes::noCoast, y -> y.image(0), STATE);
        doc.refused("BAD ahead of STATE", Scenes::noCoast, y -> y.image(-1), BAD);
        doc.refused("BAD ahead of STATE", Scenes::noCoast, y -> y.image(2), BAD);
        doc.promise(29, "The COAST is as an IMAGE kept it (no ACT can be undone then): 1.");
        x = Scenes.standing();
        doc.due("restore", x.restore(0), 1);
        doc.same("as it was kept", Seen.coast(x), "7 0 40 0 1 2 0 |1 12 20|2 18 9|3 9 30|4 10 14|5 3 0|1 20 5|5 7 25");
        doc.due("acts", x.count(8), 0);
        doc.due("undo", x.undo(), STATE);
        x.hours(24);
        doc.due("again", x.restore(0), 1);
        doc.same("as it was kept", Seen.coast(x), "7 0 40 0 1 2 0 |1 12 20|2 18 9|3 9 30|4 10 14|5 3 0|1 20 5|5 7 25");
        doc.due("acts", x.count(8), 0);
        doc.promise(29, "BAD; STATE: none was kept.");
        doc.range("image", Scenes::standing, 0, 1, StormNames::restore);
        doc.refused("none was kept", Scenes::standing, y -> y.restore(1), STATE);
        doc.refused("none was kept", Scenes::noCoast, y -> y.restore(0), STATE);
        doc.refused("BAD ahead of STATE", Scenes::noCoast, y -> y.restore(2), BAD);
    }
}
