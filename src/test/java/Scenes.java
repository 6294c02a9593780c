/** Objects in states that tests begin from; each call makes a new one. */
final class Scenes {
    /** Seven souls, their roofs all unlike. */
    static final String SEVEN = "s40,2;m12,20;l18,9;p9,30;w10,14;o3,0;m20,5;o7,25;";

    private Scenes() {
    }

    static StormNames nothing() {
        return new StormNames();
    }

    /** Rows, a tape, a fault and a finding (NULL), but no coast. */
    static StormNames noCoast() {
        StormNames x = new StormNames();
        Due.feed(x, "s61");
        x.coast();
        rows(x);
        Due.feed(x, "s7");
        x.set(6, 0, 0);
        return x;
    }

    /** Of all that an object can hold there is something; the finding is KIND. */
    static StormNames standing() {
        StormNames x = noCoast();
        x.coast();
        Due.feed(x, "s61");
        x.coast();
        Due.feed(x, SEVEN);
        x.coast();
        x.image(0);
        x.hours(2);
        x.veer();
        x.ask(1, 0);
        Due.feed(x, "s7");
        x.as(0, 5);
        return x;
    }

    /** As standing, with the tape full. */
    static StormNames tapeFull() {
        StormNames x = standing();
        for (int i = x.count(9); i < 100; i++) {
            x.feed('s');
        }
        return x;
    }

    /** Soul s has s roofs, and there is no storm: by it an item from 0 to 6 can be read. */
    static StormNames shelf() {
        return Due.coastOf("s0,0;m0,0;m0,1;m0,2;m0,3;m0,4;m0,5;m0,6;");
    }

    /** The item, read on a shelf; -1: none from 0 to 6. */
    static int item(StormNames shelf, int row, int i) {
        for (int s = 0; s < 7; s++) {
            if (shelf.fits(s, row, i, 1, 3) == 3) {
                return s;
            }
        }
        return -1;
    }

    /** A row of a lane with these items. */
    static void row(StormNames x, int row, int lane, int... items) {
        x.row(row, lane, items.length);
        for (int i = 0; i < items.length; i++) {
            x.set(row, i, items[i]);
        }
    }

    private static void rows(StormNames x) {
        row(x, 0, 2, 12, 2, 30, 14);
        row(x, 1, 0, 0, 5, 25);
        x.row(7, 1, 40);
        x.set(7, 0, 14);
        x.set(7, 39, 5);
    }
}
