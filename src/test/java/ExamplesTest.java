/** The examples of the document, as they stand there. */
public final class ExamplesTest {
    public static void main(String[] args) {
        goodItem();
        badItem();
        slowCamera();
        slippedItem();
        textAndExceptions();
        Check.end("ExamplesTest");
    }

    private static void goodItem() {
        LabelStation x = new LabelStation();
        Check.due("1 start()", x.start(), 0);
        Check.due("1 feed(0)", x.feed(0), 0);
        Check.due("1 run(48)", x.run(48), 48);
        Check.due("1 record(0, 1)", x.record(0, 1), 1);
        Check.due("1 run(33)", x.run(33), 81);
        Check.due("1 record(0, 3)", x.record(0, 3), 1);
        Check.due("1 run(30)", x.run(30), 111);
        Check.due("1 counter(1)", x.counter(1), 1);
        Check.due("1 goodShare()", x.goodShare(), 1.0);
    }

    private static void badItem() {
        LabelStation x = new LabelStation();
        Check.due("2 start()", x.start(), 0);
        Check.due("2 feed(1)", x.feed(1), 0);
        Check.due("2 fate(0)", x.fate(0), 2);
        Check.due("2 run(85)", x.run(85), 85);
        Check.due("2 counter(11)", x.counter(11), 1);
        Check.due("2 counter(6)", x.counter(6), 1);
        Check.due("2 reconcile(true)", x.reconcile(true), 0);
    }

    private static void slowCamera() {
        LabelStation x = new LabelStation();
        Check.due("3 set(1, 40)", x.set(1, 40), 8);
        Check.due("3 spare(5)", x.spare(5), 1);
        Check.due("3 fastest()", x.fastest(), 5);
        Check.due("3 start()", x.start(), 0);
        Check.due("3 feed(0)", x.feed(0), 0);
        Check.due("3 run(90)", x.run(90), 90);
        Check.due("3 counter(13)", x.counter(13), 0);
        Check.due("3 counter(4)", x.counter(4), 0);
    }

    private static void slippedItem() {
        LabelStation x = new LabelStation();
        Check.due("4 start()", x.start(), 0);
        Check.due("4 feed(0)", x.feed(0), 0);
        Check.due("4 run(30)", x.run(30), 30);
        Check.due("4 slip(0, 25)", x.slip(0, 25), 175);
        Check.due("4 run(70)", x.run(70), 100);
        Check.due("4 status(2)", x.status(2), 2);
        Check.due("4 counter(9)", x.counter(9), 0);
    }

    private static void textAndExceptions() {
        LabelStation x = new LabelStation();
        Check.due("5 append(48)", x.append(48), 1);
        Check.due("5 append(48)", x.append(48), 2);
        Check.due("5 carryOut()", x.carryOut(), -1001);
        Check.illegalArgument("5 feed(4)", x, () -> x.feed(4));
        Check.noSuchElement("5 fate(0)", x, () -> x.fate(0));
        Check.due("5 start()", x.start(), 0);
        Check.illegalState("5 start()", x, () -> x.start());
        Check.due("5 undo()", x.undo(), 0);
    }
}
