import java.util.Arrays;

/** The sentences on texts, on what happens on the coast, and on the acts. */
final class CoastBoundaries {
    private static final int BAD = -1000001, STATE = -1000002, FULL = -1000003;
    private static final int LEAST = Integer.MIN_VALUE, MOST = Integer.MAX_VALUE;
    private static final String EACH_SORT = "mlpwo";
    private final Sentences doc;

    CoastBoundaries(Sentences doc) {
        this.doc = doc;
    }

    void run() {
        tape();
        tokens();
        grammar();
        law();
        souls();
        inPlaceOfTheOneBefore();
        firstFault();
        faultOne();
        faultTwo();
        faultThree();
        promise7();
        promise8();
        worth();
        confession();
        hourTakes();
        hourGoes();
        hourCalms();
        actsKept();
        eachAct();
        promise9();
        full();
        promise10();
        promise11();
        promise12();
        promise13();
        promise14();
        promise15();
    }

    private void reads(String text, int souls) {
        StormNames x = Scenes.standing();
        x.coast();
        Due.feed(x, text);
        doc.due("souls of " + text, x.coast(), souls);
    }

    private void fails(String text, int place, int fault) {
        StormNames x = new StormNames();
        Due.feed(x, text);
        doc.due("coast of " + text, x.coast(), -1000100 - place);
        doc.due("fault of " + text, x.fault(), fault);
    }

    private static String times(String text, int n) {
        return text.repeat(n);
    }

    private void tape() {
        doc.terms("TEXTS: THE TAPE has at most 100 bytes, that come one by one;");
        StormNames x = new StormNames();
        for (int i = 1; i <= 100; i++) {
            doc.due("byte", x.feed('s'), i);
        }
        doc.due("byte 101", x.feed('s'), FULL);
        doc.due("bytes", x.count(9), 100);
        doc.promise(6, "A byte (0 to 255) comes behind the tape: how many it has.");
        x = new StormNames();
        doc.due("0", x.feed(0), 1);
        doc.due("255", x.feed(255), 2);
        doc.due("bytes", x.count(9), 2);
        x = new StormNames();
        Due.feed(x, "s1,1;m2,3;");
        x.feed('!');
        doc.due("behind the others", x.coast(), -1000110);
        doc.promise(6, "BAD; FULL.");
        doc.range("byte", Scenes::standing, 0, 255, StormNames::feed);
        doc.refused("full", Scenes::tapeFull, y -> y.feed(0), FULL);
        doc.refused("full", Scenes::tapeFull, y -> y.feed(255), FULL);
        doc.refused("BAD ahead of FULL", Scenes::tapeFull, y -> y.feed(-1), BAD);
        doc.refused("BAD ahead of FULL", Scenes::tapeFull, y -> y.feed(256), BAD);
        x = Scenes.tapeFull();
        x.coast();
        doc.due("room again", x.feed('s'), 1);
    }

    private void tokens() {
        doc.terms("TOKENS: letters a to z (each by itself), NUMBERS (figures, 2 at most), SIGNS , and ; "
            + "nothing else, no blanks.");
        String text = "s10,1;m10,10;";
        String none = " \t\n\r\0/:@Z[`{M.-+\u007f\u0080\u00ff\u00e4";
        for (int at = 0; at <= text.length(); at++) {
            // a byte that is none parts a number in two: then it stands where a sign is due
            fails(text.substring(0, at) + none.charAt(at) + text.substring(at), at, 1);
        }
        for (int i = 0; i < none.length(); i++) {
            fails(text + none.charAt(i), 13, 1);
            fails("s1" + none.charAt(i) + ",1;m1,1;", 2, 1);
            fails("s" + none.charAt(i) + "1,1;m1,1;", 1, 1);
            fails(none.charAt(i) + text, 0, 1);
        }
        fails("s1,1;mm1,1;", 6, 1);
        fails("ss1,1;m1,1;", 1, 1);
        reads("s00,00;m00,00;", 1);
        reads("s09,05;m09,09;", 1);
        fails("s000,0;m0,0;", 1, 1);
    }

    private void grammar() {
        doc.terms("coast: law soul { soul }.");
        fails("", 0, 1);
        fails("s1,1;", 5, 1);
        fails("m1,1;", 0, 1);
        fails("m1,1;s1,1;", 0, 1);
        fails("s1,1;s1,1;m1,1;", 5, 1);
        fails("s1,1;m1,1;s1,1;", 10, 1);
        for (int souls = 1; souls <= 7; souls++) {
            reads("s1,1;" + times("m1,1;", souls), souls);
        }
        fails("s1,1;" + times("m1,1;", 8), 40, 3);
    }

    private void law() {
        doc.terms("law: s FORCE , CALM ; (0 to 60; 0 to 5).");
        int[][] laws = {{0, 0}, {60, 5}, {0, 5}, {60, 0}};
        for (int[] law : laws) {
            StormNames x = Due.coastOf("s" + law[0] + "," + law[1] + ";m1,1;");
            doc.due("force", x.count(3), law[0]);
            doc.due("calm", x.count(6), law[1]);
            doc.due("souls", x.count(1), 1);
        }
        fails("s61,0;m1,1;", 1, 2);
        fails("s99,0;m1,1;", 1, 2);
        fails("s60,6;m1,1;", 4, 2);
        fails("s0,99;m1,1;", 3, 2);
        fails("s,0;m1,1;", 1, 1);
        fails("s0,;m1,1;", 3, 1);
        fails("s0;0,m1,1;", 2, 1);
        fails("s0,0,m1,1;", 4, 1);
        for (char letter = 'a'; letter <= 'z'; letter++) {
            if (letter != 's') {
                fails(letter + "0,0;m1,1;", 0, 1);
            }
        }
    }

    private void souls() {
        doc.terms("soul: SORT GUILT , ROOFS ; (SORT: m a man, l a liar, p a parson, w a woman, o an old one; 0 to 20; "
            + "0 to 30; SOULS 0 .. 6, 7 at most, in PLACES of their numbers).");
        for (char letter = 'a'; letter <= 'z'; letter++) {
            if (EACH_SORT.indexOf(letter) < 0) {
                fails("s0,0;" + letter + "1,1;", 5, 1);
            } else {
                doc.due("kind", Due.coastOf("s0,0;" + letter + "1,1;").kind(0), 1 + EACH_SORT.indexOf(letter));
            }
        }
        StormNames x = Due.coastOf("s0,0;m0,30;m20,0;m0,0;m20,30;m1,2;m3,4;m5,6;");
        int[][] due = {{0, 30}, {20, 0}, {0, 0}, {20, 30}, {1, 2}, {3, 4}, {5, 6}};
        for (int s = 0; s < 7; s++) {
            doc.due("guilt of " + s, x.soul(s, 0), due[s][0]);
            doc.due("roofs of " + s, x.soul(s, 1), due[s][1]);
        }
        doc.due("no soul 7", x.soul(7, 0), BAD);
        x.raise(50, 6);
        x.hours(1);
        doc.due("the last place is the last soul's", x.soul(6, 1), 0);
        fails("s0,0;m21,0;", 6, 2);
        fails("s0,0;m99,0;", 6, 2);
        fails("s0,0;m0,31;", 8, 2);
        fails("s0,0;m20,99;", 9, 2);
        fails("s0,0;m,0;", 6, 1);
        fails("s0,0;m0,;", 8, 1);
        fails("s0,0;m0;0,", 7, 1);
        fails("s0,0;m0,0,", 9, 1);
    }

    private void inPlaceOfTheOneBefore() {
        doc.terms("A COAST that is read stands in place of the one before (none at first): HOUR 0, THE STORM is in PLACE 0, "
            + "WAY 1 (up), nothing is LOST; no ACT can be undone; IMAGES and ROWS stay.");
        doc.due("none at first", new StormNames().count(1), 0);
        StormNames x = Scenes.standing();
        x.coast();
        doc.same("the one before", Seen.coast(x).substring(0, 15), "7 2 36 2 0 2 15");
        x.later(1, 0);
        Due.feed(x, "s60,5;w20,30;");
        doc.due("coast", x.coast(), 1);
        doc.same("the coast", Seen.coast(x), "1 0 60 0 1 5 0 |4 20 30");
        doc.due("acts", x.count(8), 0);
        doc.due("undo", x.undo(), STATE);
        doc.due("soul 1 is none", x.soul(1, 0), BAD);
        doc.due("a row stays", x.drop(7), 40);
        doc.due("an image stays", x.restore(0), 1);
        doc.same("the image", Seen.coast(x), "7 0 40 0 1 2 0 |1 12 20|2 18 9|3 9 30|4 10 14|5 3 0|1 20 5|5 7 25");
        doc.due("the other image is none", x.restore(1), STATE);
    }

    private void firstFault() {
        doc.terms("FAULTS, the first TOKEN that has one (its first byte), of one TOKEN the least:");
        fails("s61,6;x,", 1, 2);
        fails("s60,6;x21,", 4, 2);
        fails("s60,5;m21,31", 7, 2);
        fails("s60,5;m20,31", 10, 2);
        fails("s60,5;m20,30", 12, 1);
        fails("s60.99", 3, 1);
        fails("61", 0, 1);
        fails("s1,1;99", 5, 1);
        fails("s1,1;m1,1;31", 10, 1);
        fails("s999,1;", 1, 1);
        fails("s1,1;m1,999;", 8, 1);
        fails("s1,1;" + times("m1,1;", 7) + "99", 40, 1);
        fails("s1,1;" + times("m1,1;", 7) + "s", 40, 1);
    }

    private void faultOne() {
        doc.terms("1 it cannot stand there, or is none (a run of three figures or more, at its first; "
            + "the end: how many bytes there are);");
        String whole = "s10,1;m10,10;l2,3;";
        for (int end = 0; end < whole.length(); end++) {
            if (end != 13) {
                fails(whole.substring(0, end), end, 1);
            }
        }
        reads(whole.substring(0, 13), 1);
        String[] tokens = {"s", "1", ",", "1", ";", "m", "1", ",", "1", ";"};
        String[] others = {"m", "s", "1", ",", ";"};
        for (int i = 0; i < tokens.length; i++) {
            for (String other : others) {
                boolean joins = other.equals("1") && i > 0 && tokens[i - 1].equals("1");
                if (!tokens[i].equals(other) && !joins) {
                    String ahead = String.join("", Arrays.copyOf(tokens, i));
                    fails(ahead + other + ",,", ahead.length(), 1);
                }
            }
        }
        int[] runs = {3, 4, 9, 10, 11, 19, 20, 90};
        for (int figures : runs) {
            fails("s" + times("0", figures) + ",1;m1,1;".substring(0, Math.min(8, 99 - figures)), 1, 1);
            fails("s1," + times("1", figures), 3, 1);
            fails("s1,1;m" + times("9", figures), 6, 1);
            fails("s1,1;m1," + times("4294967296", 9).substring(0, figures), 8, 1);
        }
    }

    private void faultTwo() {
        doc.terms("2 a NUMBER that is not as told;");
        int[] most = {60, 5, 20, 30};
        for (int number = 0; number < 100; number++) {
            String[] texts = {"s" + number + ",1;m1,1;", "s1," + number + ";m1,1;", "s1,1;m" + number + ",1;",
                "s1,1;m1," + number + ";"};
            int[] places = {1, 3, 6, 8};
            for (int i = 0; i < 4; i++) {
                if (number > most[i]) {
                    fails(texts[i], places[i], 2);
                } else {
                    doc.due("souls of " + texts[i], Due.coastOf(texts[i]).count(1), 1);
                }
            }
        }
    }

    private void faultThree() {
        doc.terms("3 a soul more than there is room for (its letter).");
        String seven = "s10,1;" + times("m10,10;", 7);
        reads(seven, 7);
        for (int i = 0; i < EACH_SORT.length(); i++) {
            fails(seven + EACH_SORT.charAt(i), 55, 3);
            fails(seven + EACH_SORT.charAt(i) + "99,99;", 55, 3);
            fails(seven + EACH_SORT.charAt(i) + "1,1;x", 55, 3);
        }
        fails(seven + "x", 55, 1);
        fails(seven + ";", 55, 1);
    }

    private void promise7() {
        doc.promise(7, "The tape, empty then, is read: how many SOULS there are.");
        StormNames x = new StormNames();
        Due.feed(x, Scenes.SEVEN);
        doc.due("seven", x.coast(), 7);
        doc.due("empty then", x.count(9), 0);
        doc.due("of the empty tape", x.coast(), -1000100);
        doc.due("souls stay", x.count(1), 7);
        Due.feed(x, "s1,1;m1,1;");
        doc.due("one", x.coast(), 1);
        doc.promise(7, "-1000100 less the place of a FAULT: all stays, but the tape is empty then, and fault() tells this one.");
        String[] texts = {"", "s1,1;m1,1", "s61,1;", "s9,0;m9,9;x", "s1,1;" + times("o1,1;", 8), times("s", 100)};
        int[] places = {0, 9, 1, 10, 40, 1};
        int[] faults = {1, 1, 2, 1, 3, 1};
        for (int i = 0; i < texts.length; i++) {
            StormNames y = Scenes.standing();
            StormNames twin = Scenes.standing();
            y.coast();
            Due.feed(y, texts[i]);
            doc.due("coast of " + texts[i], y.coast(), -1000100 - places[i]);
            doc.due("bytes", y.count(9), 0);
            doc.due("fault", y.fault(), faults[i]);
            doc.due("status", y.status(), twin.status());
            doc.same("what stays", Seen.allButTape(y), Seen.allButTape(twin));
        }
    }

    private void promise8() {
        doc.promise(8, "The number of the latest FAULT; 0 before one.");
        StormNames x = new StormNames();
        doc.due("before one", x.fault(), 0);
        Due.feed(x, "s1,1;m1,1;");
        x.coast();
        doc.due("before one", x.fault(), 0);
        String[] texts = {"s99", "s1,1;" + times("m1,1;", 8), "x"};
        int[] faults = {2, 3, 1};
        for (int i = 0; i < texts.length; i++) {
            Due.feed(x, texts[i]);
            x.coast();
            doc.due("the latest", x.fault(), faults[i]);
            doc.due("asked again", x.fault(), faults[i]);
            Due.feed(x, "s1,1;m1,1;");
            x.coast();
            doc.due("the latest, a good text behind it", x.fault(), faults[i]);
        }
    }

    private static StormNames at(int force, String soul, int hour) {
        StormNames x = Due.coastOf("s0,0;" + soul + ",0;");
        for (int left = hour; left > 0; left -= 24) {
            x.hours(Math.min(24, left));
        }
        x.raise(force, 0);
        return x;
    }

    private void worthIs(int force, String soul, int hour, int want) {
        doc.due("worth of " + soul + " at force " + force + ", hour " + hour, at(force, soul, hour).soul(0, 2), want);
    }

    private void worth() {
        doc.terms("WORTH of a SOUL: of a man GUILT;");
        worthIs(0, "m0", 0, 0);
        worthIs(60, "m20", 99, 20);
        doc.terms("of a liar half of that;");
        worthIs(60, "l0", 0, 0);
        worthIs(60, "l1", 0, 0);
        worthIs(60, "l19", 99, 9);
        worthIs(60, "l20", 0, 10);
        doc.terms("of a parson GUILT, and a quarter (cut) of HOUR, 20 at most together;");
        int[][] parsons = {{0, 0, 0}, {0, 3, 0}, {0, 4, 1}, {20, 0, 20}, {19, 3, 19}, {19, 4, 20}, {19, 8, 20}, {20, 4, 20},
            {0, 79, 19}, {0, 80, 20}, {0, 84, 20}, {1, 400, 20}, {12, 31, 19}, {12, 32, 20}};
        for (int[] one : parsons) {
            worthIs(60, "p" + one[0], one[1], one[2]);
        }
        doc.terms("of a woman half of GUILT and a quarter of FORCE (each cut), together;");
        int[][] women = {{0, 0, 0}, {3, 1, 0}, {4, 1, 1}, {6, 1, 1}, {7, 3, 2}, {60, 20, 25}, {59, 19, 23}, {60, 0, 15}};
        for (int[] one : women) {
            worthIs(one[0], "w" + one[1], 40, one[2]);
        }
        doc.terms("of an old one what a woman's is, and 3.");
        for (int[] one : women) {
            worthIs(one[0], "o" + one[1], 40, one[2] + 3);
        }
    }

    private void confesses(int force, String soul, int want) {
        doc.due(soul + " at force " + force, at(force, soul, 0).confess(0), want);
    }

    private void confession() {
        doc.terms("A CONFESSION of a SOUL: if GUILT is as much as a quarter (cut) of FORCE, or more, FORCE is less by WORTH "
            + "(0 at least);");
        confesses(60, "m15", 45);
        confesses(60, "m16", 44);
        confesses(59, "m14", 45);
        confesses(3, "m0", 3);
        confesses(4, "m1", 3);
        confesses(0, "m0", 0);
        confesses(0, "m20", 0);
        confesses(0, "o0", 0);
        confesses(20, "m20", 0);
        confesses(21, "m20", 1);
        confesses(19, "m20", 0);
        confesses(2, "o0", 0);
        confesses(60, "o20", 32);
        doc.terms("else FORCE is 2 more (60 at most).");
        confesses(60, "m14", 60);
        confesses(59, "m13", 60);
        confesses(58, "m13", 60);
        confesses(57, "m13", 59);
        confesses(4, "m0", 6);
        confesses(5, "o0", 7);
        confesses(60, "o14", 60);
        doc.terms("Its GUILT is half of what it was then.");
        StormNames x = at(0, "p20", 0);
        int[] halves = {10, 5, 2, 1, 0, 0};
        for (int half : halves) {
            x.confess(0);
            doc.due("half", x.soul(0, 0), half);
        }
        x = at(60, "w13", 0);
        x.confess(0);
        doc.due("half, though it blows worse", x.soul(0, 0), 6);
        doc.due("the kind stays", x.kind(0), 4);
    }

    private void hourTakes() {
        doc.terms("An HOUR: THE STORM takes a fifth (cut) of FORCE off the ROOFS in its PLACE, or all that there are, "
            + "if these are fewer (so much more is LOST, 99999 at most);");
        // 99999 is out of reach: 512 calls mend no more than 30 roofs each
        int[][] due = {{0, 30, 0}, {4, 30, 0}, {5, 30, 1}, {9, 30, 1}, {10, 30, 2}, {59, 30, 11}, {60, 30, 12},
            {60, 13, 12}, {60, 12, 12}, {60, 11, 11}, {60, 1, 1}, {60, 0, 0}, {5, 1, 1}, {5, 0, 0}};
        for (int[] one : due) {
            StormNames x = Due.coastOf("s" + one[0] + ",0;m0," + one[1] + ";m0,30;");
            x.hours(1);
            doc.due("lost of " + one[1] + " by force " + one[0], x.count(7), one[2]);
            doc.due("roofs", x.soul(0, 1), one[1] - one[2]);
            doc.due("elsewhere", x.soul(1, 1), 30);
        }
        StormNames x = Due.coastOf("s60,0;m0,30;");
        x.hours(2);
        doc.due("24 lost", x.count(7), 24);
        x.hours(24);
        doc.due("so much more", x.count(7), 30);
    }

    private void hourGoes() {
        doc.terms("then it goes one PLACE by WAY (0 down, 1 up), but if there is none, it stays, and WAY is the other one;");
        StormNames x = Due.coastOf("s0,0;m0,0;m0,0;m0,0;");
        int[][] due = {{1, 1}, {2, 1}, {2, 0}, {1, 0}, {0, 0}, {0, 1}, {1, 1}};
        for (int[] one : due) {
            x.hours(1);
            doc.due("place behind hour " + x.count(2), x.count(4), one[0]);
            doc.due("way behind hour " + x.count(2), x.count(5), one[1]);
        }
        x = Due.coastOf("s0,0;m0,0;");
        x.hours(1);
        doc.due("alone: place", x.count(4), 0);
        doc.due("alone: way", x.count(5), 0);
        x.hours(1);
        doc.due("alone: place", x.count(4), 0);
        doc.due("alone: way", x.count(5), 1);
        x = Due.coastOf(Scenes.SEVEN);
        x.hours(6);
        doc.due("the last of seven", x.count(4), 6);
        x.hours(1);
        doc.due("no place 7", x.count(4), 6);
        doc.due("down", x.count(5), 0);
    }

    private void hourCalms() {
        doc.terms("then FORCE is less by CALM (0 at least).");
        int[][] due = {{5, 5, 0}, {6, 5, 1}, {4, 5, 0}, {1, 5, 0}, {0, 5, 0}, {0, 0, 0}, {60, 0, 60}, {60, 5, 55}};
        for (int[] one : due) {
            StormNames x = Due.coastOf("s" + one[0] + "," + one[1] + ";m0,30;");
            doc.due("force " + one[0] + " by calm " + one[1], x.hours(1), one[2]);
            doc.due("it took by the force ahead of that", x.count(7), one[0] / 5);
        }
        doc.terms("HOUR is 1 more. (All this also with FORCE 0.)");
        StormNames x = Due.coastOf("s0,0;m0,3;m0,3;");
        x.hours(3);
        doc.same("by no force", Seen.coast(x), "2 3 0 0 0 0 0 |1 0 3|1 0 3");
        doc.due("acts", x.count(8), 3);
        doc.due("undo", x.undo(), 2);
        doc.same("two hours", Seen.coast(x), "2 2 0 1 0 0 0 |1 0 3|1 0 3");
    }

    private void actsKept() {
        doc.terms("ACTS (24 at most are kept, of more the oldest is forgotten;");
        StormNames x = Due.coastOf("s0,0;m0,0;m0,0;");
        for (int i = 1; i <= 30; i++) {
            x.raise(i, 0);
            doc.due("acts", x.count(8), Math.min(24, i));
        }
        for (int i = 23; i >= 0; i--) {
            doc.due("undo", x.undo(), i);
            doc.due("force", x.count(3), i + 6);
        }
        doc.due("the sixth and those before are forgotten", x.undo(), STATE);
        doc.due("force", x.count(3), 6);
        doc.terms("each can be undone, the latest first;");
        x.raise(60, 1);
        x.mend(0, 30);
        x.veer();
        x.hours(1);
        x.confess(1);
        String[] before = {"2 1 60 0 0 0 0 |1 0 30|1 0 0", "2 0 60 1 0 0 0 |1 0 30|1 0 0", "2 0 60 1 1 0 0 |1 0 30|1 0 0",
            "2 0 60 1 1 0 0 |1 0 0|1 0 0", "2 0 6 0 1 0 0 |1 0 0|1 0 0"};
        for (int i = 0; i < before.length; i++) {
            doc.due("undo", x.undo(), 4 - i);
            doc.same("the coast", Seen.coast(x), before[i]);
        }
        doc.terms("also such by which nothing becomes another):");
        x = Due.coastOf("s0,0;m0,30;");
        x.confess(0);
        x.mend(0, 30);
        x.raise(0, 0);
        doc.due("three", x.count(8), 3);
        doc.due("undo", x.undo(), 2);
        doc.due("undo", x.undo(), 1);
        doc.due("undo", x.undo(), 0);
        doc.same("the same", Seen.coast(x), "1 0 0 0 1 0 0 |1 0 30");
    }

    private void eachAct() {
        doc.terms("an HOUR; a CONFESSION; ROOFS are mended (30 at most); THE STORM is raised (FORCE, its PLACE are others); "
            + "WAY is the other one.");
        StormNames x = Due.coastOf("s60,1;m20,29;w4,3;");
        String begun = Seen.coast(x);
        for (int act = 0; act < 5; act++) {
            switch (act) {
                case 0: x.hours(1); break;
                case 1: x.confess(0); break;
                case 2: doc.due("30 at most", x.mend(0, 2), 30); break;
                case 3: x.raise(0, 1); break;
                default: x.veer(); break;
            }
            doc.due("act " + act + " is one", x.count(8), 1);
            doc.due("act " + act + " makes another", Seen.coast(x).equals(begun) ? 1 : 0, 0);
            doc.due("undo " + act, x.undo(), 0);
            doc.same("the coast without act " + act, Seen.coast(x), begun);
        }
        x.image(0);
        x.ask(0, 0);
        x.later(60, 0);
        doc.due("nothing else is one", x.count(8), 0);
    }

    private void promise9() {
        doc.promise(9, "n HOURS (1 to 24), an ACT each: FORCE then.");
        StormNames x = Due.coastOf("s60,1;m0,30;");
        doc.due("1", x.hours(1), 59);
        doc.due("acts", x.count(8), 1);
        x.undo();
        doc.due("24", x.hours(24), 36);
        doc.due("acts", x.count(8), 24);
        doc.due("hour", x.count(2), 24);
        doc.due("each by itself", x.undo(), 23);
        doc.due("hour", x.count(2), 23);
    }

    private void full() {
        doc.promise(9, "BAD; STATE: no COAST (ahead of BAD); FULL: beyond HOUR 9999.");
        doc.range("n", Scenes::standing, 1, 24, StormNames::hours);
        int[] any = {-1, 0, 1, 24, 25, LEAST, MOST};
        for (int n : any) {
            doc.refused("no coast, " + n, Scenes::noCoast, x -> x.hours(n), STATE);
        }
        StormNames x = Due.coastOf("s60,0;m1,30;");
        for (int i = 0; i < 416; i++) {
            x.hours(24);
        }
        x.mend(0, 7);
        doc.due("24 to 10008", x.hours(24), FULL);
        doc.due("16 to 10000", x.hours(16), FULL);
        doc.due("BAD ahead of FULL", x.hours(25), BAD);
        doc.due("BAD, and no sum that wraps", x.hours(MOST), BAD);
        doc.same("all stays", Seen.coast(x), "1 9984 60 0 1 0 30 |1 1 7");
        doc.due("undo", x.undo(), 23);
        doc.due("15 to 9999", x.hours(15), 60);
        doc.due("1 to 10000", x.hours(1), FULL);
        doc.due("hour", x.count(2), 9999);
        doc.due("what is foretold goes on", x.later(60, 0), 60);
        doc.due("undo", x.undo(), 23);
        doc.due("1 to 9999", x.hours(1), 60);
    }

    private void promise10() {
        doc.promise(10, "A CONFESSION: FORCE then. BAD.");
        doc.due("the first", Scenes.standing().confess(0), 24);
        doc.due("the last", Scenes.standing().confess(6), 38);
        doc.range("soul", Scenes::standing, 0, 6, StormNames::confess);
        doc.refused("no coast", Scenes::noCoast, x -> x.confess(0), BAD);
        doc.due("no soul 1", Due.coastOf("s1,1;m1,1;").confess(1), BAD);
    }

    private void promise11() {
        doc.promise(11, "n ROOFS (1 to 30) are mended: how many there are. BAD.");
        int[][] due = {{0, 1, 1}, {0, 30, 30}, {28, 1, 29}, {29, 1, 30}, {29, 2, 30}, {30, 1, 30}, {30, 30, 30}, {1, 30, 30}};
        for (int[] one : due) {
            StormNames x = Due.coastOf("s1,1;m1," + one[0] + ";");
            doc.due(one[1] + " to " + one[0], x.mend(0, one[1]), one[2]);
            doc.due("roofs", x.soul(0, 1), one[2]);
            doc.due("lost", x.count(7), 0);
        }
        doc.range("soul", Scenes::standing, 0, 6, (x, soul) -> x.mend(soul, 1));
        doc.range("n", Scenes::standing, 1, 30, (x, n) -> x.mend(0, n));
        doc.refused("no coast", Scenes::noCoast, x -> x.mend(0, 1), BAD);
    }

    private void promise12() {
        doc.promise(12, "THE STORM is raised: FORCE (0 to 60), a PLACE: what FORCE was.");
        StormNames x = Scenes.standing();
        doc.due("60", x.raise(60, 6), 36);
        doc.due("0", x.raise(0, 0), 60);
        doc.due("0 as it was", x.raise(0, 0), 0);
        doc.due("place", x.count(4), 0);
        doc.due("way stays", x.count(5), 0);
        doc.due("acts", x.count(8), 6);
        doc.promise(12, "BAD; STATE: no COAST (ahead of BAD).");
        doc.range("force", Scenes::standing, 0, 60, (y, force) -> y.raise(force, 0));
        doc.range("place", Scenes::standing, 0, 6, (y, place) -> y.raise(0, place));
        doc.refused("no coast", Scenes::noCoast, y -> y.raise(0, 0), STATE);
        doc.refused("STATE ahead of BAD", Scenes::noCoast, y -> y.raise(61, 0), STATE);
        doc.refused("STATE ahead of BAD", Scenes::noCoast, y -> y.raise(0, -1), STATE);
    }

    private void promise13() {
        doc.promise(13, "WAY is the other one: WAY then.");
        StormNames x = Due.coastOf(Scenes.SEVEN);
        doc.due("down", x.veer(), 0);
        x.hours(1);
        doc.due("no place below: up", x.count(5), 1);
        doc.due("it stays", x.count(4), 0);
        doc.due("down", x.veer(), 0);
        doc.due("up", x.veer(), 1);
        doc.promise(13, "STATE: no COAST.");
        doc.refused("no coast", Scenes::noCoast, y -> y.veer(), STATE);
        doc.refused("nothing", Scenes::nothing, y -> y.veer(), STATE);
    }

    private void promise14() {
        doc.promise(14, "The latest ACT is undone: how many can be undone yet.");
        StormNames x = Scenes.standing();
        doc.due("way", x.undo(), 2);
        doc.due("up again", x.count(5), 1);
        doc.due("an hour", x.undo(), 1);
        doc.due("the last", x.undo(), 0);
        doc.same("as it was read", Seen.coast(x), "7 0 40 0 1 2 0 |1 12 20|2 18 9|3 9 30|4 10 14|5 3 0|1 20 5|5 7 25");
        doc.promise(14, "STATE: none.");
        doc.due("none left", x.undo(), STATE);
        doc.due("none left", x.undo(), STATE);
        doc.refused("no coast", Scenes::noCoast, y -> y.undo(), STATE);
        doc.refused("none yet", () -> Due.coastOf(Scenes.SEVEN), y -> y.undo(), STATE);
        x.veer();
        doc.due("one again", x.undo(), 0);
    }

    private void promise15() {
        doc.promise(15, "Of a SOUL: 0 GUILT, 1 ROOFS, 2 WORTH, 3 by how much FORCE would be less by its CONFESSION now "
            + "(below 0: more).");
        int[][] falls = {{60, 15, 15}, {60, 14, 0}, {59, 13, -1}, {58, 13, -2}, {20, 20, 20}, {19, 20, 19}, {0, 20, 0},
            {0, 0, 0}, {3, 0, 0}, {4, 0, -2}};
        for (int[] one : falls) {
            StormNames x = at(one[0], "m" + one[1], 0);
            doc.due("guilt", x.soul(0, 0), one[1]);
            doc.due("roofs", x.soul(0, 1), 0);
            doc.due("worth", x.soul(0, 2), one[1]);
            doc.due("guilt " + one[1] + " at force " + one[0], x.soul(0, 3), one[2]);
            doc.due("force stays", x.count(3), one[0]);
        }
        doc.promise(15, "BAD.");
        doc.range("soul", Scenes::standing, 0, 6, (x, soul) -> x.soul(soul, 0));
        doc.range("what", Scenes::standing, 0, 3, (x, what) -> x.soul(0, what));
        doc.refused("no coast", Scenes::noCoast, x -> x.soul(0, 0), BAD);
    }
}
