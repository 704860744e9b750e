/** Promises 23 to 25: append, clearText, carryOut. */
public final class TextTest {
    public static void main(String[] args) {
        append();
        clearText();
        carryOutEmpty();
        carryOutCommands();
        syntaxErrors();
        commandsThatThrow();
        Check.end("TextTest");
    }

    private static void append() {
        LabelStation x = new LabelStation();
        for (int value : new int[] {-1, 128, 255, 256 + '0', Integer.MIN_VALUE, Integer.MAX_VALUE}) {
            Check.illegalArgument("append(" + value + ")", x, () -> x.append(value));
        }
        Check.due("append(0)", x.append(0), 1);
        Check.due("append(127)", x.append(127), 2);
        for (int length = 3; length <= 80; length++) {
            Check.due("append()", x.append(length), length);
        }
        Check.illegalState("append('.') to 80 bytes", x, () -> x.append('.'));
        Check.illegalArgument("append(128), two faults", x, () -> x.append(128));
        Check.illegalState("undo() after append()", x, () -> x.undo());
        Check.due("digest()", x.digest(), 31 * Check.digestWithoutSaved(x, 80, false));
    }

    private static void clearText() {
        LabelStation x = new LabelStation();
        Check.due("clearText()", x.clearText(), 0);
        Check.write(x, "0.:");
        Check.due("clearText()", x.clearText(), 3);
        Check.due("clearText()", x.clearText(), 0);
        Check.illegalState("undo() after clearText()", x, () -> x.undo());
        Check.due("append('1')", x.append('1'), 1);
        Check.due("carryOut()", x.carryOut(), 1);
        Check.due("the quality", x.item(0, 1), 1);
    }

    private static void carryOutEmpty() {
        LabelStation x = new LabelStation();
        long before = x.digest();
        Check.due("carryOut() of an empty text", x.carryOut(), 0);
        Check.due("undo()", x.undo(), 0);
        Check.due("the digest after it", x.digest(), before);
    }

    private static void carryOutCommands() {
        LabelStation x = new LabelStation();
        x.start();
        Check.write(x, "0:1:.2::3::.:");
        Check.due("carryOut()", x.carryOut(), 13);
        Check.due("status(0)", x.status(0), 72);
        Check.due("items", x.status(3), 4);
        for (int number = 0; number <= 3; number++) {
            Check.due("the quality", x.item(number, 1), number);
        }
        Check.due("item(0, 0)", x.item(0, 0), 360);
        Check.due("item(3, 0)", x.item(3, 0), 155);
        Check.due("undo(): one saved state for all commands", x.undo(), 1);
        Check.due("status(0)", x.status(0), 0);
        Check.due("items", x.status(3), 0);
        Check.due("the text is as it was", x.clearText(), 13);

        LabelStation y = new LabelStation();
        y.start();
        y.feed(0);
        y.run(10);
        y.feed(1);
        y.run(11);
        LabelStation z = new LabelStation();
        z.start();
        Check.write(z, "0:1:.");
        z.carryOut();
        z.clearText();
        Check.due("as by the methods", Check.digestWithoutSaved(z), Check.digestWithoutSaved(y));

        LabelStation w = new LabelStation();
        Check.write(w, ".");
        Check.due("carryOut()", w.carryOut(), 1);
        Check.due("carryOut() again", w.carryOut(), 1);
        Check.due("status(0)", w.status(0), 2);
    }

    private static void syntaxErrors() {
        String[] texts = {"4", "/", "-", ";", " ", "0.a", "..:4", "00a", "x0", "\0", "0000\u007f"};
        int[] due = {-10, -10, -10, -10, -10, -12, -13, -12, -10, -10, -14};
        for (int index = 0; index < texts.length; index++) {
            LabelStation x = new LabelStation();
            Check.write(x, texts[index]);
            long before = x.digest();
            Check.due("carryOut() of text " + index, x.carryOut(), due[index]);
            Check.due("the digest after it", x.digest(), before);
            Check.due("the text is as it was", x.clearText(), texts[index].length());
        }
        StringBuilder full = new StringBuilder();
        for (int index = 0; index < 79; index++) {
            full.append('.');
        }
        LabelStation y = new LabelStation();
        Check.write(y, full + "!");
        Check.due("carryOut() with a fault at the end", y.carryOut(), -89);
        Check.write(y, full + ":");
        Check.due("carryOut() of 80 bytes", y.carryOut(), 80);
        Check.due("status(0)", y.status(0), 89);
    }

    private static void commandsThatThrow() {
        LabelStation x = new LabelStation();
        x.start();
        Check.write(x, "0:1.2");
        long before = x.digest();
        Check.due("carryOut()", x.carryOut(), -1004);
        Check.due("the digest after it", x.digest(), before);
        Check.due("the text is as it was", x.clearText(), 5);
        x.feed(3);
        x.run(6);
        x.run(0);
        x.run(0);
        x.run(0);
        Check.write(x, "0::3..1");
        before = x.digest();
        Check.due("carryOut() with four saved states", x.carryOut(), -1006);
        Check.due("the digest after it", x.digest(), before);
        x.clearText();
        Check.due("run() after it", x.run(1), 7);
        Check.due("item(0, 0) after it", x.item(0, 0), 35);
        Check.due("feed(0) after it", x.feed(0), 1);
        for (int left = 3; left >= 0; left--) {
            Check.due("undo() after it", x.undo(), left);
        }

        LabelStation y = new LabelStation();
        y.feed(0);
        Check.write(y, "0");
        Check.due("carryOut() whose first command throws", y.carryOut(), -1000);
    }
}
