/** The sentences on KINDS, on asks and on what is counted. */
final class AskedBoundaries {
    private static final int NONE = -1000000, BAD = -1000001, KIND = -1000013;
    private static final int LEAST = Integer.MIN_VALUE, MOST = Integer.MAX_VALUE;
    private static final String EACH = "s1,1;m12,20;l18,9;p9,30;w10,14;o3,7;";
    private final Sentences doc;

    AskedBoundaries(Sentences doc) {
        this.doc = doc;
    }

    void run() {
        kindsOfSouls();
        promise30();
        promise31();
        trace();
        sizes();
        marks();
        nearestKind();
        promise32();
        promise33();
        promise34();
        promise34Refused();
    }

    private void kindsOfSouls() {
        doc.terms("KINDS of SOULS: 0 SOUL; 1 MAN, a SOUL; 2 LIAR, a MAN; 3 PARSON, a MAN; 4 WOMAN, a SOUL; 5 OLD, a WOMAN. "
            + "By this it is asked.");
        StormNames x = Due.coastOf(EACH);
        String[] are = {"01", "012", "013", "04", "045"};
        for (int s = 0; s < 5; s++) {
            for (int kind = 0; kind <= 5; kind++) {
                boolean one = are[s].indexOf((char) ('0' + kind)) >= 0;
                doc.due("as(" + s + ", " + kind + ")", x.as(s, kind), one ? s : KIND);
            }
        }
    }

    private void promise30() {
        doc.promise(30, "The KIND of a SOUL, as told (1 to 5).");
        StormNames x = Due.coastOf(EACH);
        for (int s = 0; s < 5; s++) {
            doc.due("kind of " + s, x.kind(s), s + 1);
        }
        doc.promise(30, "BAD.");
        doc.range("soul", Scenes::standing, 0, 6, StormNames::kind);
        doc.refused("no coast", Scenes::noCoast, y -> y.kind(0), BAD);
        doc.due("no soul 5", x.kind(5), BAD);
    }

    private void promise31() {
        doc.promise(31, "A SOUL is taken as one of a KIND (0 .. 5): the SOUL's number.");
        doc.due("the first", Scenes.standing().as(0, 0), 0);
        doc.due("the last", Scenes.standing().as(6, 5), 6);
        doc.due("its kind stays", kindAfterAs(), 5);
        doc.promise(31, "BAD; KIND: it is no such one.");
        doc.range("soul", Scenes::standing, 0, 6, (x, soul) -> x.as(soul, 0));
        doc.range("kind", Scenes::standing, 0, 5, (x, kind) -> x.as(0, kind));
        doc.refused("no coast", Scenes::noCoast, x -> x.as(0, 0), BAD);
        doc.refused("a man is no liar", Scenes::standing, x -> x.as(0, 2), KIND);
        doc.refused("a woman is no old one", Scenes::standing, x -> x.as(3, 5), KIND);
        doc.refused("a liar is no parson", Scenes::standing, x -> x.as(1, 3), KIND);
        doc.refused("an old one is no man", Scenes::standing, x -> x.as(4, 1), KIND);
    }

    private static int kindAfterAs() {
        StormNames x = Scenes.standing();
        x.as(6, 4);
        return x.kind(6);
    }

    private void asked(StormNames x, int s, int what, int want, int... bodies) {
        doc.due("ask(" + s + ", " + what + ")", x.ask(s, what), want);
        for (int i = 0; i < bodies.length; i++) {
            doc.due("trace " + i + " of ask(" + s + ", " + what + ")", x.trace(i), bodies[i]);
        }
        doc.due("the end of the trace of ask(" + s + ", " + what + ")", x.trace(bodies.length), NONE);
    }

    private void trace() {
        doc.terms("ASKS of SOULS, by BODIES, each of which leaves its number in THE TRACE as it begins (the first 16):");
        // the longest leaves six, so 16 are never more than there is room for
        StormNames x = Due.coastOf(EACH);
        asked(x, 1, 0, -47, 12, 11, 10, 24, 21, 20);
        asked(x, 0, 1, 12, 21, 20);
        for (int i = 2; i <= 17; i++) {
            doc.due("nothing of an ask before", x.trace(i), NONE);
        }
    }

    private void sizes() {
        doc.terms("0 SIZE: 10 lent to all SOULS: ROOFS. 11 of MEN: what 10 gives, and MARK. 12 of LIARS: 0 less what 11 gives. "
            + "13 of WOMEN: what 10 gives, less 100. 14 of OLD ones: twice what 13 gives (asked once).");
        StormNames x = Due.coastOf(EACH);
        asked(x, 0, 0, 32, 11, 10, 21, 20);
        asked(x, 1, 0, -47, 12, 11, 10, 24, 21, 20);
        asked(x, 3, 0, -86, 13, 10);
        asked(x, 4, 0, -186, 14, 13, 10);
        x = Due.coastOf("s0,0;m0,0;l0,0;w0,0;o0,0;");
        asked(x, 0, 0, 0, 11, 10, 21, 20);
        asked(x, 1, 0, -2, 12, 11, 10, 24, 21, 20);
        asked(x, 2, 0, -100, 13, 10);
        asked(x, 3, 0, -200, 14, 13, 10);
    }

    private void marks() {
        doc.terms("1 MARK: 20 lent to all SOULS: the number. 21 of MEN: what 20 gives, and GUILT. "
            + "22 of PARSONS: what 21 gives, less 1000. 23 of WOMEN: what 20 gives, less SIZE. "
            + "24 of LIARS: twice what 21 gives (asked once).");
        StormNames x = Due.coastOf(EACH);
        asked(x, 0, 1, 12, 21, 20);
        asked(x, 1, 1, 38, 24, 21, 20);
        asked(x, 2, 1, -989, 22, 21, 20);
        asked(x, 3, 1, 89, 23, 20, 13, 10);
        x = Due.coastOf("s0,0;p0,0;m0,0;l0,0;w0,30;");
        asked(x, 0, 1, -1000, 22, 21, 20);
        asked(x, 1, 1, 1, 21, 20);
        asked(x, 2, 1, 4, 24, 21, 20);
        asked(x, 3, 1, 73, 23, 20, 13, 10);
    }

    private void nearestKind() {
        doc.terms("(Of an ask the BODY told for the KIND begins, else that of the nearest KIND that it is, too, "
            + "else the one that is lent; SIZE, MARK within others are asked of the same SOUL anew.)");
        StormNames x = Due.coastOf(EACH);
        asked(x, 2, 0, -959, 11, 10, 22, 21, 20);
        asked(x, 4, 1, 190, 23, 20, 14, 13, 10);
    }

    private void promise32() {
        doc.promise(32, "An ASK (0, 1) of a SOUL.");
        StormNames x = Scenes.standing();
        asked(x, 0, 0, 24, 11, 10, 21, 20);
        asked(x, 6, 1, 156, 23, 20, 14, 13, 10);
        doc.promise(32, "BAD (THE TRACE stays then).");
        doc.range("soul", Scenes::standing, 0, 6, (y, soul) -> y.ask(soul, 0));
        doc.range("what", Scenes::standing, 0, 1, (y, what) -> y.ask(0, what));
        doc.refused("no coast", Scenes::noCoast, y -> y.ask(0, 0), BAD);
        x.ask(7, 0);
        x.ask(0, 2);
        doc.due("it stays", x.trace(0) * 100 + x.trace(4), 2310);
        doc.promise(32, "THE TRACE is empty ahead of it.");
        asked(x, 5, 1, 25, 21, 20);
        doc.due("nothing of the one before", x.trace(4), NONE);
    }

    private void promise33() {
        doc.promise(33, "Number i of THE TRACE; NONE.");
        int[] nowhere = {-1, 6, 7, 15, 16, 17, LEAST, MOST};
        StormNames x = Due.coastOf(EACH);
        doc.due("before an ask", x.trace(0), NONE);
        x.ask(1, 0);
        doc.due("the first", x.trace(0), 12);
        doc.due("the last", x.trace(5), 20);
        for (int i : nowhere) {
            doc.due("number " + i, x.trace(i), NONE);
        }
        Due.feed(x, "s1,1;o1,1;");
        x.coast();
        doc.due("it stays until an ask", x.trace(5), 20);
    }

    private void promise34() {
        doc.promise(34, "How many: 0 ROWS, 1 SOULS, 2 HOUR, 3 FORCE, 4 the PLACE of THE STORM, 5 WAY, 6 CALM, 7 LOST, "
            + "8 ACTS that can be undone, 9 bytes on the tape (without a COAST 1 to 7 are 0).");
        StormNames x = Scenes.standing();
        int[] due = {3, 7, 2, 36, 2, 0, 2, 15, 3, 2};
        for (int what = 0; what <= 9; what++) {
            doc.due("count(" + what + ")", x.count(what), due[what]);
        }
        int[] without = {3, 0, 0, 0, 0, 0, 0, 0, 0, 2};
        for (int what = 0; what <= 9; what++) {
            doc.due("without a coast, count(" + what + ")", Scenes.noCoast().count(what), without[what]);
        }
        x = new StormNames();
        for (int row = 0; row < 8; row++) {
            x.row(row, 0, 0);
            doc.due("rows", x.count(0), row + 1);
        }
    }

    private void promise34Refused() {
        doc.promise(34, "BAD.");
        doc.range("what", Scenes::standing, 0, 9, StormNames::count);
        doc.range("what", Scenes::nothing, 0, 9, StormNames::count);
    }
}
