/** Compares answers with those that are due, and tells the wrong ones. */
final class Due {
    private static final int SHOWN = 40;
    private int asked;
    private int wrong;

    void due(String call, int got, int want) {
        asked++;
        if (got != want) {
            wrong++;
            if (wrong <= SHOWN) {
                System.out.println(call + " answered " + got + ", due is " + want);
            }
        }
    }

    boolean allRight() {
        return wrong == 0;
    }

    void end() {
        System.out.println((asked - wrong) + " answers as due, " + wrong + " not");
        if (wrong != 0 || asked == 0) {
            System.exit(1);
        }
    }

    static void feed(StormNames x, String text) {
        for (int i = 0; i < text.length(); i++) {
            x.feed(text.charAt(i));
        }
    }

    static StormNames coastOf(String text) {
        StormNames x = new StormNames();
        feed(x, text);
        x.coast();
        return x;
    }
}
