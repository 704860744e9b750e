/** Promises 13 to 19: status, item, record, numberAt, counter, reconcile, goodShare. */
public final class QueriesTest {
    private static final int[] OUTSIDE = {-1, Integer.MIN_VALUE, Integer.MAX_VALUE};

    public static void main(String[] args) {
        status();
        item();
        record();
        numberAt();
        counter();
        reconcileAndShare();
        Check.end("QueriesTest");
    }

    private static void status() {
        LabelStation x = new LabelStation();
        Check.illegalArgument("status(8)", x, () -> x.status(8));
        for (int what : OUTSIDE) {
            Check.illegalArgument("status(" + what + ")", x, () -> x.status(what));
        }
        x.start();
        x.feed(1);
        x.run(6);
        x.feed(0);
        x.run(37);
        int[] due = {43, 1, 0, 2, 2, 1, 0, 0};
        for (int what = 0; what <= 7; what++) {
            Check.due("status(" + what + ") at 43", x.status(what), due[what]);
        }
        x.run(38);
        int[] later = {81, 1, 0, 1, 1, 0, 1, 1};
        for (int what = 0; what <= 7; what++) {
            Check.due("status(" + what + ") at 81", x.status(what), later[what]);
        }
    }

    private static void item() {
        LabelStation x = new LabelStation();
        Check.noSuchElement("item(0, 0)", x, () -> x.item(0, 0));
        Check.noSuchElement("item(0, 3), two faults", x, () -> x.item(0, 3));
        x.start();
        x.feed(3);
        x.run(21);
        x.feed(2);
        x.slip(0, 7);
        Check.due("item(0, 0)", x.item(0, 0), 112);
        Check.due("item(0, 1)", x.item(0, 1), 3);
        Check.due("item(0, 2)", x.item(0, 2), 1);
        Check.due("item(1, 0)", x.item(1, 0), 0);
        Check.due("item(1, 1)", x.item(1, 1), 2);
        Check.due("item(1, 2)", x.item(1, 2), 0);
        Check.illegalArgument("item(0, 3)", x, () -> x.item(0, 3));
        for (int outside : OUTSIDE) {
            Check.illegalArgument("item(0, " + outside + ")", x, () -> x.item(0, outside));
            Check.noSuchElement("item(" + outside + ", 0)", x, () -> x.item(outside, 0));
        }
        Check.noSuchElement("item(2, 0)", x, () -> x.item(2, 0));
        x.take(0);
        Check.noSuchElement("item(0, 0)", x, () -> x.item(0, 0));
        Check.due("item(1, 1)", x.item(1, 1), 2);
    }

    private static void record() {
        LabelStation x = new LabelStation();
        Check.noSuchElement("record(0, 0)", x, () -> x.record(0, 0));
        Check.noSuchElement("record(0, 5), two faults", x, () -> x.record(0, 5));
        x.start();
        x.feed(0);
        x.run(101);
        int[] due = {505, 1, 0, 1, 1};
        for (int what = 0; what <= 4; what++) {
            Check.due("record(0, " + what + ")", x.record(0, what), due[what]);
        }
        LabelStation y = new LabelStation();
        y.jam(true);
        y.start();
        y.feed(0);
        y.run(50);
        int[] faulty = {250, 2, 1, 0, 0};
        for (int what = 0; what <= 4; what++) {
            Check.due("record(0, " + what + ") of a label fault", y.record(0, what), faulty[what]);
        }
        Check.illegalArgument("record(0, 5)", y, () -> y.record(0, 5));
        for (int outside : OUTSIDE) {
            Check.illegalArgument("record(0, " + outside + ")", y, () -> y.record(0, outside));
            Check.noSuchElement("record(" + outside + ", 0)", y, () -> y.record(outside, 0));
        }
        y.take(0);
        Check.due("a record whose item was taken", y.record(0, 0), 250);
    }

    private static void numberAt() {
        LabelStation x = new LabelStation();
        Check.outOfBounds("numberAt(0, true)", x, () -> x.numberAt(0, true));
        Check.outOfBounds("numberAt(0, false)", x, () -> x.numberAt(0, false));
        x.start();
        for (int number = 0; number < 4; number++) {
            x.feed(1);
            x.run(6);
        }
        x.take(1);
        int[] items = {0, 2, 3};
        for (int index = 0; index < 3; index++) {
            Check.due("numberAt(, false)", x.numberAt(index, false), items[index]);
        }
        for (int index = 0; index < 4; index++) {
            Check.due("numberAt(, true)", x.numberAt(index, true), index);
        }
        Check.outOfBounds("numberAt(3, false)", x, () -> x.numberAt(3, false));
        Check.outOfBounds("numberAt(4, true)", x, () -> x.numberAt(4, true));
        for (int outside : OUTSIDE) {
            Check.outOfBounds("numberAt(" + outside + ", true)", x, () -> x.numberAt(outside, true));
            Check.outOfBounds("numberAt(" + outside + ", false)", x, () -> x.numberAt(outside, false));
        }
        x.run(80 - 24);
        Check.due("numberAt(0, true) after a reject", x.numberAt(0, true), 1);
        Check.due("numberAt(0, false) after a reject", x.numberAt(0, false), 2);
    }

    private static void counter() {
        LabelStation x = new LabelStation();
        Check.illegalArgument("counter(18)", x, () -> x.counter(18));
        for (int what : OUTSIDE) {
            Check.illegalArgument("counter(" + what + ")", x, () -> x.counter(what));
        }
        x.set(4, 20);
        x.start();
        for (int number = 0; number < 6; number++) {
            x.feed(number % 4);
            x.run(6);
        }
        x.take(4);
        x.run(90);
        // Record 4, whose item was taken at position 60, wastes a label, is rejected, and never confirmed.
        int[] due = {6, 2, 4, 0, 0, 1, 3, 1, 2, 0, 0, 4, 0, 0, 0, 1, 0, 0};
        for (int what = 0; what <= 17; what++) {
            Check.due("counter(" + what + ")", x.counter(what), due[what]);
        }
    }

    private static void reconcileAndShare() {
        LabelStation x = new LabelStation();
        x.start();
        Check.due("goodShare() at first", x.goodShare(), 0.0);
        x.feed(0);
        x.run(6);
        Check.due("goodShare() with records in the register", x.goodShare(), 0.0);
        x.feed(1);
        x.run(6);
        x.feed(0);
        x.run(76);
        Check.due("goodShare() after a reject", x.goodShare(), 0.0);
        x.take(2);
        for (int ticks = 0; ticks < 40; ticks++) {
            x.run(1);
            Check.due("reconcile(true)", x.reconcile(true), 0);
            Check.due("reconcile(false)", x.reconcile(false), 0);
        }
        Check.due("left as passed", x.counter(1), 1);
        Check.due("goodShare()", x.goodShare(), 1.0 / (x.counter(1) + x.counter(2) + x.counter(3)));
        Check.due("all have left", x.counter(1) + x.counter(2) + x.counter(3), 3);
    }
}
