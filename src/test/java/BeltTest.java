/** Promises 6 to 12, each call by itself: start, stop, reset, feed, slip, take, run. */
public final class BeltTest {
    public static void main(String[] args) {
        startAndStop();
        alarmAndReset();
        feed();
        feedNeedsRoom();
        feedTwentyItems();
        slip();
        take();
        run();
        Check.end("BeltTest");
    }

    private static void startAndStop() {
        LabelStation x = new LabelStation();
        Check.illegalState("stop() at first", x, () -> x.stop());
        Check.due("start()", x.start(), 0);
        Check.due("status(1)", x.status(1), 1);
        Check.illegalState("start() while it runs", x, () -> x.start());
        x.feed(0);
        x.run(6);
        x.feed(0);
        Check.due("stop()", x.stop(), 2);
        Check.due("status(1)", x.status(1), 0);
        Check.illegalState("stop() of a stopped belt", x, () -> x.stop());
        x.run(10);
        Check.due("item(0, 0) on a stopped belt", x.item(0, 0), 30);
        Check.due("record(0, 0) on a stopped belt", x.record(0, 0), 30);
        Check.due("start()", x.start(), 2);
        Check.undoable("stop()", x, () -> x.stop());
        LabelStation y = new LabelStation();
        Check.undoable("start()", y, () -> y.start());
    }

    private static void alarmAndReset() {
        LabelStation x = Check.small();
        Check.illegalState("reset() without an alarm", x, () -> x.reset());
        x.set(4, 1);
        x.start();
        x.feed(1);
        x.run(40);
        Check.due("status(2)", x.status(2), 1);
        Check.due("status(1)", x.status(1), 0);
        Check.illegalState("start() with an alarm", x, () -> x.start());
        Check.illegalState("stop() with an alarm", x, () -> x.stop());
        Check.undoable("reset()", x, () -> x.reset());
        Check.due("reset()", x.reset(), 1);
        Check.due("status(2) after reset()", x.status(2), 0);
        Check.due("status(1) after reset()", x.status(1), 0);
        Check.illegalState("reset() again", x, () -> x.reset());
        Check.due("start() after reset()", x.start(), 0);
    }

    private static void feed() {
        LabelStation x = new LabelStation();
        for (int quality : new int[] {-1, 4, Integer.MIN_VALUE, Integer.MAX_VALUE}) {
            Check.illegalArgument("feed(" + quality + ")", x, () -> x.feed(quality));
        }
        x.start();
        for (int quality = 0; quality <= 3; quality++) {
            Check.due("feed()", x.feed(quality), quality);
            Check.due("item(, 0)", x.item(quality, 0), 0);
            Check.due("item(, 1)", x.item(quality, 1), quality);
            Check.due("item(, 2)", x.item(quality, 2), 0);
            for (int what = 0; what <= 4; what++) {
                Check.due("record(, " + what + ")", x.record(quality, what), 0);
            }
            Check.due("counter(0)", x.counter(0), quality + 1);
            x.run(6);
        }
        Check.undoable("feed()", x, () -> x.feed(2));
        Check.due("feed() after undo()", x.feed(1), x.counter(0) - 1);

        LabelStation y = new LabelStation();
        y.feed(0);
        y.take(0);
        y.start();
        y.run(6);
        Check.due("feed(0): a number is not used again", y.feed(0), 1);
    }

    private static void feedNeedsRoom() {
        LabelStation x = new LabelStation();
        x.set(0, 1);
        x.feed(0);
        Check.illegalState("feed(0) with an item at 0", x, () -> x.feed(0));
        Check.illegalArgument("feed(4), two faults", x, () -> x.feed(4));
        x.slip(0, 30);
        Check.illegalState("feed(0) with a record at 0", x, () -> x.feed(0));
        x.start();
        x.run(29);
        Check.illegalState("feed(0) with a record at 29", x, () -> x.feed(0));
        x.run(1);
        x.slip(0, -30);
        x.slip(0, -1);
        Check.due("item(0, 0)", x.item(0, 0), 29);
        Check.due("record(0, 0)", x.record(0, 0), 30);
        Check.illegalState("feed(0) with an item at 29", x, () -> x.feed(0));
        x.slip(0, 1);
        Check.due("feed(0) with both at 30", x.feed(0), 1);
    }

    private static void feedTwentyItems() {
        LabelStation x = new LabelStation();
        x.setPlaces(100, 200, 260, 800, 1000);
        x.set(0, 10);
        x.start();
        for (int number = 0; number < 20; number++) {
            Check.due("feed(0)", x.feed(0), number);
            x.run(3);
        }
        Check.due("status(3)", x.status(3), 20);
        Check.illegalState("feed(0) with 20 items", x, () -> x.feed(0));
        x.take(7);
        Check.due("feed(0) with 19 items", x.feed(0), 20);
        x.run(3);
        Check.illegalState("feed(0) with 20 items", x, () -> x.feed(0));
        for (int index = 0; index < 20; index++) {
            Check.due("numberAt()", x.numberAt(index, false), index < 7 ? index : index + 1);
        }
    }

    private static void slip() {
        LabelStation x = new LabelStation();
        Check.noSuchElement("slip(0, 0) without items", x, () -> x.slip(0, 0));
        x.feed(0);
        Check.noSuchElement("slip(1, 31), two faults", x, () -> x.slip(1, 31));
        Check.noSuchElement("slip(-1, 0)", x, () -> x.slip(-1, 0));
        for (int pulses : new int[] {31, -31, Integer.MIN_VALUE, Integer.MAX_VALUE}) {
            Check.illegalArgument("slip(0, " + pulses + ")", x, () -> x.slip(0, pulses));
        }
        Check.illegalArgument("slip(0, -1) at 0", x, () -> x.slip(0, -1));
        Check.due("slip(0, 0) at 0", x.slip(0, 0), 0);
        Check.due("slip(0, 30)", x.slip(0, 30), 30);
        Check.due("item(0, 0)", x.item(0, 0), 30);
        Check.due("record(0, 0)", x.record(0, 0), 0);
        Check.illegalArgument("slip(0, -31) at 30", x, () -> x.slip(0, -31));
        Check.due("slip(0, -30)", x.slip(0, -30), 0);
        for (int count = 1; count <= 16; count++) {
            Check.due("slip(0, 30)", x.slip(0, 30), 30 * count);
        }
        Check.illegalArgument("slip(0, 20) at 480", x, () -> x.slip(0, 20));
        Check.illegalArgument("slip(0, 30) at 480", x, () -> x.slip(0, 30));
        Check.due("slip(0, 19) at 480", x.slip(0, 19), 499);
        Check.undoable("slip(0, -7)", x, () -> x.slip(0, -7));
        Check.undoable("slip(0, 0)", x, () -> x.slip(x.numberAt(0, false), 0));
    }

    private static void take() {
        LabelStation x = new LabelStation();
        Check.noSuchElement("take(0) without items", x, () -> x.take(0));
        x.start();
        x.feed(0);
        x.run(6);
        x.feed(1);
        x.run(1);
        x.slip(0, 3);
        Check.undoable("take(0)", x, () -> x.take(0));
        Check.due("take(0)", x.take(0), 38);
        Check.due("status(3)", x.status(3), 1);
        Check.due("status(4)", x.status(4), 2);
        Check.due("counter(7)", x.counter(7), 1);
        Check.due("record(0, 0)", x.record(0, 0), 35);
        Check.due("item(1, 0)", x.item(1, 0), 5);
        Check.due("item(1, 1)", x.item(1, 1), 1);
        Check.noSuchElement("take(0) again", x, () -> x.take(0));
        Check.noSuchElement("take(2)", x, () -> x.take(2));
        Check.noSuchElement("take(-1)", x, () -> x.take(-1));
        Check.due("take(1)", x.take(1), 5);
        Check.due("counter(7)", x.counter(7), 2);
        Check.due("reconcile(true)", x.reconcile(true), 0);
    }

    private static void run() {
        LabelStation x = new LabelStation();
        for (int ticks : new int[] {-1, 1001, Integer.MIN_VALUE, Integer.MAX_VALUE}) {
            Check.illegalArgument("run(" + ticks + ")", x, () -> x.run(ticks));
        }
        Check.undoable("run(0)", x, () -> x.run(0));
        Check.undoable("run(3)", x, () -> x.run(3));
        Check.due("run(0)", x.run(0), 0);
        Check.due("run(1000)", x.run(1000), 1000);
        Check.due("run(1)", x.run(1), 1001);
        x.feed(0);
        x.start();
        x.set(0, 7);
        Check.due("run(2)", x.run(2), 1003);
        Check.due("item(0, 0) after 2 ticks of 7 pulses", x.item(0, 0), 14);
        Check.due("record(0, 0) after 2 ticks of 7 pulses", x.record(0, 0), 14);
    }
}
