/** The sentences on refusals, on ROWS and on what status() tells. */
final class RowsBoundaries {
    private static final int NONE = -1000000, BAD = -1000001, STATE = -1000002, FULL = -1000003;
    private static final int NULL = -1000011, PLACE = -1000012, KIND = -1000013, SIZE = -1000014, STORE = -1000015;
    private static final int LEAST = Integer.MIN_VALUE, MOST = Integer.MAX_VALUE;
    private final Sentences doc;

    RowsBoundaries(Sentences doc) {
        this.doc = doc;
    }

    void run() {
        numbers();
        firstRefusal();
        findingsInTime();
        findings();
        changesNothing();
        aNewObject();
        rowsOfLanes();
        promise2();
        promise3();
        copies();
        copiesRefused();
        promise5();
        promise35();
    }

    private void numbers() {
        doc.terms("Numbers go from 0 on.");
        StormNames x = Scenes.standing();
        doc.due("soul 0", x.soul(0, 0), 12);
        doc.due("row 0, item 0", x.set(0, 0, 3), 3);
        doc.due("no soul at how many there are", x.soul(x.count(1), 0), BAD);
        doc.due("image 0", x.restore(0), 1);
        doc.terms("Sets are bits.");
        doc.due("all that confess", Due.coastOf("s20,0;m10,1;m5,1;m10,1;").list(0, 1), 5);
    }

    private void firstRefusal() {
        doc.terms("Refusals are answers, the first of these that fits, but as told: "
            + "BAD (a number is not as told; there is no such thing), STATE (as told), FULL (as told), then FINDINGS,");
        doc.refused("BAD ahead of STATE", Scenes::noCoast, x -> x.image(2), BAD);
        doc.refused("BAD ahead of STATE", Scenes::noCoast, x -> x.restore(2), BAD);
        doc.refused("BAD ahead of FULL", Scenes::tapeFull, x -> x.feed(256), BAD);
        doc.refused("BAD ahead of SIZE", Scenes::standing, x -> x.row(8, 0, -1), BAD);
        doc.refused("BAD ahead of NULL", Scenes::standing, x -> x.copy(6, 0, 8, 0, 0), BAD);
        doc.refused("BAD ahead of KIND", Scenes::standing, x -> x.as(0, 6), BAD);
        doc.refused("no such soul", Scenes::noCoast, x -> x.soul(0, 0), BAD);
        doc.due("NONE", StormNames.NONE, NONE);
        doc.due("BAD", StormNames.BAD, BAD);
        doc.due("STATE", StormNames.STATE, STATE);
        doc.due("FULL", StormNames.FULL, FULL);
    }

    private void findingsInTime() {
        doc.terms("of several the first in time:");
        doc.refused("NULL ahead of PLACE", Scenes::standing, x -> x.set(6, -1, 0), NULL);
        doc.refused("NULL ahead of STORE and PLACE", Scenes::standing, x -> x.copy(0, 9, 6, -1, 9), NULL);
        doc.refused("STORE ahead of PLACE", Scenes::standing, x -> x.copy(0, -1, 1, 99, 99), STORE);
        doc.refused("NULL ahead of PLACE", Scenes::standing, x -> x.fits(0, 6, -1, 1, 0), NULL);
    }

    private void findings() {
        doc.terms("-1000010 less 1 NULL (a ROW that is missing),");
        doc.refused("NULL", Scenes::standing, x -> x.set(6, 0, 0), NULL);
        doc.terms("2 PLACE (no such place of a ROW),");
        doc.refused("PLACE", Scenes::standing, x -> x.set(0, 4, 0), PLACE);
        doc.terms("3 KIND (a SOUL that is not that),");
        doc.refused("KIND", () -> due0(Scenes.standing()), x -> x.as(0, 2), KIND);
        doc.terms("4 SIZE (fewer than none),");
        doc.refused("SIZE", Scenes::standing, x -> x.row(0, 0, -1), SIZE);
        doc.terms("5 STORE (ROWS of two LANES).");
        doc.refused("STORE", Scenes::standing, x -> x.copy(0, 0, 1, 0, 1), STORE);
    }

    /** The same, but the status is 0. */
    private static StormNames due0(StormNames x) {
        x.as(0, 0);
        return x;
    }

    private void changesNothing() {
        doc.terms("What is refused, or found, changes nothing but status().");
        doc.refused("row", Scenes::standing, x -> x.row(0, 0, 41), BAD);
        doc.refused("row", Scenes::standing, x -> x.row(7, 0, -1), SIZE);
        doc.refused("set", Scenes::standing, x -> x.set(7, 40, 1), PLACE);
        doc.refused("copy", Scenes::standing, x -> x.copy(0, 0, 0, 2, 3), PLACE);
        doc.refused("drop", Scenes::standing, x -> x.drop(6), NULL);
        doc.refused("feed", Scenes::tapeFull, x -> x.feed(1), FULL);
        doc.refused("hours", Scenes::standing, x -> x.hours(25), BAD);
        doc.refused("hours", Scenes::noCoast, x -> x.hours(1), STATE);
        doc.refused("confess", Scenes::standing, x -> x.confess(7), BAD);
        doc.refused("mend", Scenes::standing, x -> x.mend(0, 31), BAD);
        doc.refused("raise", Scenes::standing, x -> x.raise(9, 7), BAD);
        doc.refused("veer", Scenes::noCoast, x -> x.veer(), STATE);
        doc.refused("undo", Scenes::noCoast, x -> x.undo(), STATE);
        doc.refused("image", Scenes::noCoast, x -> x.image(1), STATE);
        doc.refused("restore", Scenes::standing, x -> x.restore(1), STATE);
        doc.refused("as", Scenes::standing, x -> x.as(1, 3), KIND);
        doc.refused("ask", Scenes::standing, x -> x.ask(0, 2), BAD);
        doc.refused("fits", Scenes::standing, x -> x.fits(0, 0, 4, 1, 0), PLACE);
    }

    private void aNewObject() {
        doc.promise(1, "No COAST.");
        StormNames x = new StormNames();
        for (int what = 0; what <= 9; what++) {
            doc.due("count(" + what + ")", x.count(what), 0);
        }
        int[] states = {x.hours(1), x.raise(0, 0), x.veer(), x.undo(), x.later(0, 0), x.still(), x.bare(0), x.list(0, 0),
            x.order(0), x.named(1, 0), x.owning(0, 0, 0), x.drawn(0, 1, 0), x.image(0), x.restore(0), x.restore(1)};
        for (int i = 0; i < states.length; i++) {
            doc.due("call " + i + " that needs a coast", states[i], STATE);
        }
        int[] bads = {x.confess(0), x.mend(0, 1), x.soul(0, 0), x.roofs(0, 0), x.premium(0, 0), x.fits(0, 0, 0, 1, 0),
            x.dropped(0, 0, 0), x.kind(0), x.as(0, 0), x.ask(0, 0)};
        for (int i = 0; i < bads.length; i++) {
            doc.due("call " + i + " that needs a soul", bads[i], BAD);
        }
        doc.due("fault", x.fault(), 0);
        doc.due("status", x.status(), 0);
        doc.due("trace", x.trace(0), NONE);
    }

    private void rowsOfLanes() {
        doc.terms("ROWS 0 .. 7 are missing (at first), or have a LANE (0 bytes, 1 shorts, 2 ints) and 0 to 40 ITEMS, "
            + "0 at first.");
        for (int row = 0; row < 8; row++) {
            int number = row;
            doc.refused("missing at first", Scenes::nothing, x -> x.drop(number), NULL);
        }
        StormNames x = Scenes.shelf();
        doc.due("no items", x.row(0, 0, 0), 0);
        doc.due("no items, but a row", x.count(0), 1);
        doc.due("no items: no place 0", x.set(0, 0, 0), PLACE);
        for (int lane = 0; lane <= 2; lane++) {
            doc.due("40 items", x.row(7, lane, 40), 40);
            doc.due("the first at first", Scenes.item(x, 7, 0), 0);
            doc.due("the last at first", Scenes.item(x, 7, 39), 0);
            x.set(7, 0, 5);
            x.set(7, 39, 6);
            doc.due("the last", Scenes.item(x, 7, 39), 6);
            doc.due("the one behind it", x.set(7, 40, 6), PLACE);
        }
        x.row(7, 2, 40);
        for (int i = 0; i < 40; i++) {
            doc.due("0 at first, item " + i, x.fits(0, 7, i, 1, 0), 61);
        }
    }

    private void promise2() {
        doc.promise(2, "A ROW of a LANE with n ITEMS, in place of what is there: n.");
        StormNames x = Scenes.shelf();
        Scenes.row(x, 3, 0, 1, 2, 3, 4, 5);
        doc.due("fewer", x.row(3, 2, 2), 2);
        doc.due("no place 2 now", x.set(3, 2, 1), PLACE);
        doc.due("of ints now", x.set(3, 1, 70000), 70000);
        doc.due("0 in place of 1", Scenes.item(x, 3, 0), 0);
        doc.due("more", x.row(3, 1, 6), 6);
        doc.due("0 in place of 3", Scenes.item(x, 3, 2), 0);
        doc.due("0 in place of 5", Scenes.item(x, 3, 4), 0);
        doc.due("none", x.row(3, 1, 0), 0);
        doc.due("one row all the time", x.count(0), 1);
        doc.promise(2, "BAD: ROW, LANE, n above 40; SIZE.");
        doc.range("row", Scenes::standing, 0, 7, (y, row) -> y.row(row, 0, 1));
        doc.range("lane", Scenes::standing, 0, 2, (y, lane) -> y.row(0, lane, 1));
        doc.due("n 40", Scenes.standing().row(0, 0, 40), 40);
        doc.refused("n 41", Scenes::standing, y -> y.row(0, 0, 41), BAD);
        doc.refused("the greatest n", Scenes::standing, y -> y.row(0, 0, MOST), BAD);
        doc.refused("n -1", Scenes::standing, y -> y.row(0, 0, -1), SIZE);
        doc.refused("n -1 of a missing row", Scenes::standing, y -> y.row(6, 0, -1), SIZE);
        doc.refused("the least n", Scenes::standing, y -> y.row(0, 0, LEAST), SIZE);
        doc.refused("BAD row ahead of SIZE", Scenes::standing, y -> y.row(-1, 0, -1), BAD);
        doc.refused("BAD lane ahead of SIZE", Scenes::standing, y -> y.row(0, 3, -1), BAD);
    }

    private void promise3() {
        doc.promise(3, "ITEM i becomes v, its lowest bits, as many as the LANE has (read with their sign): "
            + "what it is then.");
        StormNames x = Scenes.shelf();
        for (int lane = 0; lane <= 2; lane++) {
            x.row(lane, lane, 3);
        }
        int[][] sets = {
            {0, 127, 127}, {0, 128, -128}, {0, -128, -128}, {0, -129, 127}, {0, 255, -1}, {0, 256, 0}, {0, MOST, -1},
            {0, LEAST, 0}, {1, 32767, 32767}, {1, 32768, -32768}, {1, -32768, -32768}, {1, -32769, 32767},
            {1, 65535, -1}, {1, 65536, 0}, {1, MOST, -1}, {1, LEAST, 0}, {2, 65536, 65536}, {2, MOST, MOST},
            {2, LEAST, LEAST}};
        for (int[] one : sets) {
            doc.due("lane " + one[0] + ", " + one[1], x.set(one[0], 1, one[1]), one[2]);
        }
        x.set(0, 0, 256 + 4);
        doc.due("a byte is kept so", Scenes.item(x, 0, 0), 4);
        x.set(1, 2, 65536 * 3 + 5);
        doc.due("a short is kept so", Scenes.item(x, 1, 2), 5);
        x.set(2, 0, 256 + 4);
        doc.due("an int is kept whole", Scenes.item(x, 2, 0), -1);
        doc.promise(3, "BAD: ROW; NULL; PLACE.");
        doc.range("row", Scenes::standing, 0, 7, (y, row) -> y.set(row, 0, 1));
        doc.refused("BAD ahead of PLACE", Scenes::standing, y -> y.set(8, -1, 1), BAD);
        doc.refused("missing", Scenes::standing, y -> y.set(2, 0, 1), NULL);
        doc.refused("NULL ahead of PLACE", Scenes::standing, y -> y.set(2, 40, 1), NULL);
        int[] nowhere = {-1, 4, 39, 40, LEAST, MOST};
        for (int i : nowhere) {
            doc.refused("place " + i + " of 4", Scenes::standing, y -> y.set(0, i, 1), PLACE);
        }
        doc.due("the last place of 4", Scenes.standing().set(0, 3, 1), 1);
        doc.due("the first place of 4", Scenes.standing().set(0, 0, 1), 1);
    }

    private void itemsAre(String told, StormNames x, int row, int... items) {
        for (int i = 0; i < items.length; i++) {
            doc.due(told + ": item " + i, Scenes.item(x, row, i), items[i]);
        }
    }

    private void copies() {
        doc.promise(4, "n ITEMS of a from i on come to b from j on, as they were ahead: n.");
        StormNames x = Scenes.shelf();
        Scenes.row(x, 0, 1, 1, 2, 3, 4);
        doc.due("up, over itself", x.copy(0, 0, 0, 1, 3), 3);
        itemsAre("up", x, 0, 1, 1, 2, 3);
        x = Scenes.shelf();
        Scenes.row(x, 0, 0, 1, 2, 3, 4);
        doc.due("down, over itself", x.copy(0, 1, 0, 0, 3), 3);
        itemsAre("down", x, 0, 2, 3, 4, 4);
        doc.due("onto itself", x.copy(0, 0, 0, 0, 4), 4);
        itemsAre("onto itself", x, 0, 2, 3, 4, 4);
        x = Scenes.shelf();
        Scenes.row(x, 0, 2, 1, 2, 3);
        Scenes.row(x, 7, 2, 4, 5, 6, 6);
        doc.due("to an end", x.copy(0, 1, 7, 2, 2), 2);
        itemsAre("to", x, 7, 4, 5, 2, 3);
        itemsAre("from", x, 0, 1, 2, 3);
        doc.due("none", x.copy(0, 0, 7, 0, 0), 0);
        doc.due("none, from an end on", x.copy(0, 3, 7, 4, 0), 0);
        itemsAre("none", x, 7, 4, 5, 2, 3);
        x.row(1, 2, 40);
        x.row(2, 2, 40);
        x.set(1, 39, 6);
        doc.due("40", x.copy(1, 0, 2, 0, 40), 40);
        doc.due("the last of 40", Scenes.item(x, 2, 39), 6);
        x.row(3, 2, 0);
        doc.due("none of none", x.copy(3, 0, 3, 0, 0), 0);
    }

    /** Two rows of ints, of 4 and of 3, and one each of the other lanes. */
    private static StormNames twoRows() {
        StormNames x = Scenes.standing();
        Scenes.row(x, 2, 2, 30, 2, 12);
        return x;
    }

    private void copiesRefused() {
        doc.promise(4, "BAD: ROWS; NULL; STORE; PLACE (i, j, n below 0, or beyond an end).");
        doc.range("a", Scenes::standing, 0, 7, (x, a) -> x.copy(a, 0, 0, 0, 1));
        doc.range("b", Scenes::standing, 0, 7, (x, b) -> x.copy(0, 0, b, 0, 1));
        doc.refused("BAD b ahead of NULL a", Scenes::standing, x -> x.copy(6, 0, 8, 0, 1), BAD);
        doc.refused("BAD a ahead of NULL b", Scenes::standing, x -> x.copy(-1, 0, 6, 0, 1), BAD);
        doc.refused("a is missing", Scenes::standing, x -> x.copy(6, 0, 0, 0, 1), NULL);
        doc.refused("b is missing", Scenes::standing, x -> x.copy(0, 0, 6, 0, 1), NULL);
        doc.refused("both are missing", Scenes::standing, x -> x.copy(6, 0, 5, 0, 0), NULL);
        doc.refused("NULL ahead of STORE and PLACE", Scenes::standing, x -> x.copy(1, 9, 6, 9, 9), NULL);
        int[][] lanes = {{0, 1}, {1, 0}, {0, 7}, {7, 0}, {1, 7}, {7, 1}};
        for (int[] two : lanes) {
            doc.refused("rows " + two[0] + ", " + two[1], Scenes::standing, x -> x.copy(two[0], 0, two[1], 0, 1), STORE);
            doc.refused("STORE ahead of PLACE", Scenes::standing, x -> x.copy(two[0], -1, two[1], -1, -1), STORE);
            doc.refused("STORE of none", Scenes::standing, x -> x.copy(two[0], 0, two[1], 0, 0), STORE);
        }
        int[][] nowhere = {
            {-1, 0, 1}, {0, -1, 1}, {0, 0, -1}, {1, 1, -1}, {LEAST, 0, 1}, {0, LEAST, 1}, {0, 0, LEAST}, {-1, 0, 0},
            {0, -1, 0}, {5, 0, 0}, {0, 4, 0}, {2, 0, 3}, {4, 0, 1}, {0, 1, 3}, {0, 3, 1}, {0, 0, 4}, {0, 0, 5},
            {MOST, 0, 0}, {0, MOST, 0}, {MOST, 0, 1}, {0, MOST, 1}, {1, 0, MOST}, {0, 1, MOST}, {MOST, MOST, MOST},
            {LEAST, 0, LEAST}, {0, LEAST, LEAST}, {4, 3, LEAST}};
        for (int[] one : nowhere) {
            doc.refused("i " + one[0] + ", j " + one[1] + ", n " + one[2], RowsBoundaries::twoRows,
                x -> x.copy(0, one[0], 2, one[1], one[2]), PLACE);
        }
        int[][] somewhere = {{1, 0, 3}, {3, 2, 1}, {0, 0, 3}, {4, 3, 0}};
        for (int[] one : somewhere) {
            doc.due("to an end", twoRows().copy(0, one[0], 2, one[1], one[2]), one[2]);
        }
    }

    private void promise5() {
        doc.promise(5, "A ROW is missing from now on: how many ITEMS it had.");
        StormNames x = Scenes.standing();
        x.row(3, 0, 0);
        doc.due("of 40", x.drop(7), 40);
        doc.due("of none", x.drop(3), 0);
        doc.due("rows", x.count(0), 2);
        doc.due("missing", x.set(7, 0, 0), NULL);
        doc.due("missing", x.copy(7, 0, 7, 0, 0), NULL);
        doc.due("missing", x.fits(0, 7, 0, 1, 0), NULL);
        doc.due("anew", x.row(7, 1, 2), 2);
        doc.due("it had 2", x.drop(7), 2);
        doc.promise(5, "BAD; NULL.");
        doc.range("row", Scenes::standing, 0, 7, (y, row) -> y.drop(row));
        doc.refused("missing", Scenes::standing, y -> y.drop(6), NULL);
        doc.due("again", x.drop(7), NULL);
    }

    private void promise35() {
        doc.promise(35, "Of the latest call with a ROW, or as(), that was not BAD, STATE, FULL: "
            + "the number of its FINDING; 0: it had none, or there was none.");
        doc.due("there was none", new StormNames().status(), 0);
        StormNames x = new StormNames();
        x.drop(8);
        doc.due("BAD only", x.status(), 0);
        x = Scenes.tapeFull();
        x.set(6, 0, 0);
        int[] others = {x.feed(1), x.restore(1), x.row(8, 0, 0), x.set(8, 0, 0), x.copy(8, 0, 0, 0, 0), x.drop(8),
            x.as(0, 6), x.fits(9, 0, 0, 1, 0), x.hours(1), x.confess(0), x.mend(0, 1), x.raise(9, 0), x.veer(), x.undo(),
            x.soul(0, 0), x.image(0), x.restore(0), x.ask(0, 0), x.kind(0), x.count(0), x.premium(0, 1), x.trace(0)};
        doc.due("after " + others.length + " calls that are refused, or have no row", x.status(), 1);
        doc.due("asked twice", x.status(), 1);
        for (int call = 0; call < 6; call++) {
            StormNames y = Scenes.standing();
            doc.due("as() found it", y.status(), 3);
            switch (call) {
                case 0: y.row(0, 0, 1); break;
                case 1: y.set(0, 0, 1); break;
                case 2: y.copy(0, 0, 0, 0, 0); break;
                case 3: y.drop(0); break;
                case 4: y.fits(0, 0, 0, 1, 1); break;
                default: y.as(0, 1); break;
            }
            doc.due("call " + call + " that had none", y.status(), 0);
        }
        x = Scenes.standing();
        doc.due("no force fits, which is no finding", x.fits(0, 0, 2, 1, 1), NONE);
        doc.due("no finding", x.status(), 0);
    }
}
