/** Promises 26 and 27: undo, digest. */
public final class UndoTest {
    public static void main(String[] args) {
        undoRestoresInOrder();
        fourStatesAtMost();
        undoKeepsTheText();
        undoRestoresWhatIsOnItsWay();
        undoRestoresRejects();
        refusedCallsSaveNothing();
        queriesSaveNothing();
        digest();
        Check.end("UndoTest");
    }

    private static void undoRestoresInOrder() {
        LabelStation x = new LabelStation();
        Check.illegalState("undo()", x, () -> x.undo());
        x.set(0, 1);
        x.set(0, 2);
        x.set(0, 3);
        Check.due("undo()", x.undo(), 2);
        Check.due("value(0)", x.value(0), 2);
        x.set(0, 7);
        Check.due("undo()", x.undo(), 2);
        Check.due("value(0)", x.value(0), 2);
        Check.due("undo()", x.undo(), 1);
        Check.due("value(0)", x.value(0), 1);
        Check.due("undo()", x.undo(), 0);
        Check.due("value(0)", x.value(0), 5);
        Check.illegalState("undo()", x, () -> x.undo());
    }

    private static void fourStatesAtMost() {
        LabelStation x = new LabelStation();
        for (int round = 1; round <= 30; round++) {
            for (int count = 0; count < round; count++) {
                x.run(1);
            }
            int tick = x.status(0);
            int saved = Math.min(4, round);
            for (int back = 1; back <= saved; back++) {
                Check.due("undo()", x.undo(), saved - back);
                Check.due("status(0)", x.status(0), tick - back);
            }
            Check.illegalState("undo() once more", x, () -> x.undo());
        }
    }

    private static void undoKeepsTheText() {
        LabelStation x = new LabelStation();
        Check.write(x, "0.");
        x.run(1);
        x.append(':');
        Check.due("undo()", x.undo(), 0);
        Check.due("the text after undo()", x.clearText(), 3);
    }

    private static void undoRestoresWhatIsOnItsWay() {
        LabelStation x = new LabelStation();
        x.set(2, 20);
        x.set(3, 30);
        x.start();
        x.feed(1);
        x.run(42);
        x.feed(2);
        x.run(40);
        Check.due("on the way at 82", x.status(5) * 100 + x.status(6) * 10 + x.status(7), 111);
        Check.due("reconcile(true)", x.reconcile(true), 0);
        x.run(60);
        long later = x.digest();
        Check.due("on the way at 142", x.status(5) * 100 + x.status(6) * 10 + x.status(7), 0);
        int saved = Check.savedStates(x);
        Check.due("undo()", x.undo(), saved - 1);
        Check.due("on the way at 82", x.status(5) * 100 + x.status(6) * 10 + x.status(7), 111);
        Check.due("reconcile(true)", x.reconcile(true), 0);
        x.run(60);
        Check.due("the same once more", x.digest(), later);
        Check.due("confirmed", x.counter(6), 1);
    }

    private static void undoRestoresRejects() {
        LabelStation x = Check.small();
        x.start();
        x.feed(1);
        x.run(39);
        x.run(1);
        Check.due("value(12)", x.value(12), 1);
        x.undo();
        Check.due("value(12) after undo()", x.value(12), 0);
        Check.due("reconcile(true) after undo()", x.reconcile(true), 0);
        Check.due("reconcile(false) after undo()", x.reconcile(false), 0);
        x.run(1);
        x.run(4);
        x.jam(true);
        x.undo();
        x.undo();
        Check.due("value(12) at 40", x.value(12), 1);
        Check.due("on the way to the bin at 40", x.status(7), 1);
        Check.due("reconcile(true) at 40", x.reconcile(true), 0);
        Check.due("jam(false)", x.jam(false), false);
    }

    private static void refusedCallsSaveNothing() {
        LabelStation x = new LabelStation();
        x.run(1);
        Check.illegalArgument("run(-1)", x, () -> x.run(-1));
        Check.illegalState("stop()", x, () -> x.stop());
        Check.noSuchElement("take(0)", x, () -> x.take(0));
        Check.due("undo()", x.undo(), 0);
    }

    private static void queriesSaveNothing() {
        LabelStation x = new LabelStation();
        x.feed(0);
        long before = x.digest();
        x.value(0);
        x.status(0);
        x.item(0, 0);
        x.record(0, 0);
        x.numberAt(0, true);
        x.counter(0);
        x.reconcile(true);
        x.reconcile(false);
        x.goodShare();
        x.spare(1);
        x.fastest();
        x.fate(0);
        x.digest();
        Check.due("the digest after queries", x.digest(), before);
        Check.due("undo()", x.undo(), 0);
    }

    private static void digest() {
        LabelStation x = new LabelStation();
        Check.due("digest()", x.digest(), 31 * Check.digestWithoutSaved(x));
        x.jam(true);
        x.start();
        for (int number = 0; number < 8; number++) {
            x.feed(number % 4);
            x.run(7);
        }
        x.take(5);
        x.slip(6, 11);
        Check.write(x, "012.:");
        Check.due("digest()", x.digest(), 31 * Check.digestWithoutSaved(x, 5, true) + 4);
        x.undo();
        Check.due("digest()", x.digest(), 31 * Check.digestWithoutSaved(x, 5, true) + 3);
    }
}
