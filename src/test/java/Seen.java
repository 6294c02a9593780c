/** What can be seen of an object, as a text: of the coast alone, or all, which uses the object up. */
final class Seen {
    private static final int SOULS = 7;

    private Seen() {
    }

    /** Looks only, and changes nothing. */
    static String coast(StormNames x) {
        StringBuilder text = new StringBuilder();
        for (int what = 1; what <= 7; what++) {
            text.append(x.count(what)).append(' ');
        }
        for (int s = 0; s < x.count(1); s++) {
            text.append('|').append(x.kind(s)).append(' ').append(x.soul(s, 0)).append(' ').append(x.soul(s, 1));
        }
        return text.toString();
    }

    static String all(StormNames x) {
        String tape = x.count(9) + " bytes, fault " + x.fault();
        String rest = allButTape(x);
        return tape + ", read as " + x.coast() + ", fault " + x.fault() + "\n" + rest;
    }

    static String allButTape(StormNames x) {
        StringBuilder text = new StringBuilder(coast(x));
        text.append("\ntrace");
        for (int i = 0; i < SOULS; i++) {
            text.append(' ').append(x.trace(i));
        }
        text.append("\nrows ").append(x.count(0));
        items(x, text, 0, 0, 3);
        items(x, text, 1, 0, 2);
        items(x, text, 7, 0, 0);
        items(x, text, 7, 39, 39);
        acts(x, text);
        for (int k = 0; k < 2; k++) {
            text.append("\nimage ").append(x.restore(k)).append(' ').append(coast(x));
        }
        sizes(x, text);
        return text.toString();
    }

    /** No call tells an item: here by which forces it fits the roofs of each soul. */
    private static void items(StormNames x, StringBuilder text, int row, int first, int last) {
        for (int i = first; i <= last; i++) {
            text.append('|');
            for (int s = 0; s < SOULS; s++) {
                text.append(' ').append(x.fits(s, row, i, 1, 0));
            }
        }
    }

    private static void acts(StormNames x, StringBuilder text) {
        text.append("\nacts ").append(x.count(8));
        for (int left = x.count(8); left > 0; left--) {
            text.append("\nbefore it ").append(x.undo()).append(' ').append(coast(x));
        }
    }

    private static void sizes(StormNames x, StringBuilder text) {
        text.append("\nlanes and sizes");
        for (int row = 0; row < 8; row++) {
            text.append(' ').append(x.set(row, 0, 70000)).append(' ').append(x.drop(row));
        }
    }
}
