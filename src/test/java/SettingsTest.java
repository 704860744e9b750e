/** Promises 1 to 5: a new object, setPlaces, set, value, jam. */
public final class SettingsTest {
    private static final int[] INITIAL = {5, 8, 4, 10, 5, 10, 50, 100, 200, 260, 400, 500, 0};
    private static final int[] LEAST = {1, 1, 1, 1, 1, 0, 0};
    private static final int[] MOST = {10, 100, 50, 100, 20, 20, 1000};

    public static void main(String[] args) {
        newObject();
        newObjectsAreApart();
        placesInOrder();
        placesOutOfOrder();
        placesWithItems();
        settings();
        settingsOutOfRange();
        values();
        jam();
        Check.end("SettingsTest");
    }

    private static void newObject() {
        LabelStation x = new LabelStation();
        for (int what = 0; what <= 12; what++) {
            Check.due("new value(" + what + ")", x.value(what), INITIAL[what]);
        }
        for (int what = 0; what <= 7; what++) {
            Check.due("new status(" + what + ")", x.status(what), 0);
        }
        for (int what = 0; what <= 17; what++) {
            Check.due("new counter(" + what + ")", x.counter(what), 0);
        }
        Check.due("new digest()", x.digest(), 31 * Check.digestWithoutSaved(x));
        Check.illegalState("new undo()", x, () -> x.undo());
        Check.due("new clearText()", x.clearText(), 0);
        Check.due("new feed(0)", x.feed(0), 0);
        Check.due("new jam(false)", x.jam(false), false);
    }

    private static void newObjectsAreApart() {
        LabelStation x = new LabelStation();
        long fresh = x.digest();
        x.set(0, 9);
        x.setPlaces(1, 2, 3, 4, 5);
        x.feed(1);
        Check.due("digest() of another object", new LabelStation().digest(), fresh);
    }

    private static void placesInOrder() {
        LabelStation x = new LabelStation();
        Check.due("setPlaces(1, 2, 3, 4, 5)", x.setPlaces(1, 2, 3, 4, 5), 500);
        for (int place = 0; place < 5; place++) {
            Check.due("value() of a place", x.value(7 + place), place + 1);
        }
        Check.due("setPlaces(996, .., 1000)", x.setPlaces(996, 997, 998, 999, 1000), 5);
        Check.due("setPlaces(11, 222, 333, 444, 555)", x.setPlaces(11, 222, 333, 444, 555), 1000);
        Check.due("value(7)", x.value(7), 11);
        Check.due("value(8)", x.value(8), 222);
        Check.due("value(9)", x.value(9), 333);
        Check.due("value(10)", x.value(10), 444);
        Check.due("value(11)", x.value(11), 555);
        Check.undoable("setPlaces", x, () -> x.setPlaces(1, 22, 333, 444, 445));
        Check.undoable("setPlaces to the same", x, () -> x.setPlaces(100, 200, 260, 400, 500));
    }

    private static void placesOutOfOrder() {
        LabelStation x = new LabelStation();
        int[][] wrong = {
            {0, 1, 2, 3, 4}, {-5, 1, 2, 3, 4}, {2, 2, 3, 4, 5}, {3, 2, 4, 5, 6}, {1, 3, 3, 4, 5}, {1, 4, 3, 5, 6},
            {1, 2, 4, 4, 5}, {1, 2, 5, 4, 6}, {1, 2, 3, 5, 5}, {1, 2, 3, 6, 5}, {1, 2, 3, 4, 1001},
            {997, 998, 999, 1000, 1001}, {1, 2, 3, 4, Integer.MAX_VALUE}, {Integer.MIN_VALUE, 2, 3, 4, 5},
            {1, 2, 3, 4, Integer.MIN_VALUE}, {Integer.MAX_VALUE, 2, 3, 4, 5},
        };
        for (int[] p : wrong) {
            Check.illegalArgument("setPlaces(" + java.util.Arrays.toString(p) + ")", x,
                    () -> x.setPlaces(p[0], p[1], p[2], p[3], p[4]));
        }
    }

    private static void placesWithItems() {
        LabelStation x = Check.small();
        x.feed(0);
        Check.illegalState("setPlaces with an item and a record", x, () -> x.setPlaces(1, 2, 3, 4, 5));
        Check.illegalArgument("setPlaces, two faults", x, () -> x.setPlaces(1, 2, 3, 4, 4));
        x.take(0);
        Check.due("no item, a record", x.status(3) * 10 + x.status(4), 1);
        Check.illegalState("setPlaces with a record only", x, () -> x.setPlaces(1, 2, 3, 4, 5));

        LabelStation y = Check.small();
        y.feed(0);
        y.start();
        y.run(1);
        y.slip(0, -1);
        y.run(40);
        Check.due("an item, no record", y.status(3) * 10 + y.status(4), 10);
        Check.illegalState("setPlaces with an item only", y, () -> y.setPlaces(1, 2, 3, 4, 5));
        y.take(0);
        Check.due("setPlaces with an expectation only", y.setPlaces(1, 2, 3, 4, 5), 50);
    }

    private static void settings() {
        LabelStation x = new LabelStation();
        for (int what = 0; what <= 6; what++) {
            int of = what;
            Check.due("set to the least", x.set(what, LEAST[what]), INITIAL[what]);
            Check.due("value after it", x.value(what), LEAST[what]);
            Check.due("set to the most", x.set(what, MOST[what]), LEAST[what]);
            Check.due("value after it", x.value(what), MOST[what]);
            Check.undoable("set(" + what + ")", x, () -> x.set(of, LEAST[of]));
            Check.undoable("set to the same", x, () -> x.set(of, x.value(of)));
            x.set(what, MOST[what]);
        }
        for (int what = 0; what <= 6; what++) {
            Check.due("value of each setting", x.value(what), MOST[what]);
        }
    }

    private static void settingsOutOfRange() {
        LabelStation x = new LabelStation();
        for (int what = 0; what <= 6; what++) {
            int of = what;
            Check.illegalArgument("set below, " + what, x, () -> x.set(of, LEAST[of] - 1));
            Check.illegalArgument("set above, " + what, x, () -> x.set(of, MOST[of] + 1));
            Check.illegalArgument("set far below, " + what, x, () -> x.set(of, Integer.MIN_VALUE));
            Check.illegalArgument("set far above, " + what, x, () -> x.set(of, Integer.MAX_VALUE));
        }
        for (int what : new int[] {-1, 7, 12, Integer.MIN_VALUE, Integer.MAX_VALUE}) {
            Check.illegalArgument("set(" + what + ", 5)", x, () -> x.set(what, 5));
        }
    }

    private static void values() {
        LabelStation x = new LabelStation();
        for (int what : new int[] {-1, 13, Integer.MIN_VALUE, Integer.MAX_VALUE}) {
            Check.illegalArgument("value(" + what + ")", x, () -> x.value(what));
        }
        x.setPlaces(10, 20, 30, 40, 50);
        x.start();
        x.feed(1);
        x.run(9);
        Check.due("value(12) after a reject", x.value(12), 1);
        Check.due("value(6) after a label", x.value(6), 49);
    }

    private static void jam() {
        LabelStation x = new LabelStation();
        Check.due("jam(true)", x.jam(true), false);
        Check.due("jam(true)", x.jam(true), true);
        Check.due("digest() of a jammed labeler", x.digest(), 31 * Check.digestWithoutSaved(x, 0, true) + 2);
        Check.due("jam(false)", x.jam(false), true);
        Check.due("jam(false)", x.jam(false), false);
        Check.undoable("jam(true)", x, () -> x.jam(true));
        Check.undoable("jam(false)", x, () -> x.jam(false));
    }
}
