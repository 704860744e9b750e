/** The sentences of the promises 1 to 27 that name a boundary, a test each. */
public final class PromiseEdgesTest {
    private static final int[] FAR = {Integer.MIN_VALUE, Integer.MAX_VALUE};

    public static void main(String[] args) {
        emptyBeltAndInitialValues();
        labelerPlace();
        cameraPlace();
        secondPlace();
        gatePlace();
        exitPlace();
        previousExit();
        placesWithAnItem();
        placesWithARecord();
        settingNumbers();
        settingRanges();
        previousValue();
        valueNumbers();
        jammedBefore();
        startReturns();
        startRefused();
        stopReturns();
        stopRefused();
        resetReturns();
        resetRefused();
        feedQualities();
        feedWithTwentyItems();
        feedWithAnItemBelowThirty();
        feedWithARecordBelowThirty();
        slipItems();
        slipPulses();
        slipPositions();
        takeItems();
        takenRecordStays();
        runTicks();
        statusNumbers();
        statusValues();
        itemNumbers();
        itemWhat();
        recordNumbers();
        recordWhat();
        numberAtIndexes();
        counterNumbers();
        reconciled();
        goodShareOfNone();
        goodShareOfSome();
        spareSpeeds();
        spareAboveZero();
        fastestSpeed();
        fastestNone();
        fateNumbers();
        fateAnswers();
        fateWithinThousandTicks();
        fateWithAlarm();
        fateChangesNothing();
        appendValues();
        appendToFullText();
        clearTextReturns();
        carryOutNumberOfCommands();
        carryOutSyntaxError();
        carryOutCommandThatThrows();
        carryOutOneSavedState();
        carryOutLeavesTheText();
        undoReturns();
        undoRefused();
        digestOfNew();
        digestOverflows();
        digestValues();
        Check.end("PromiseEdgesTest");
    }

    /** A small station whose belt runs, with an item of this quality. */
    private static LabelStation smallWith(int quality) {
        LabelStation x = Check.small();
        x.start();
        x.feed(quality);
        return x;
    }

    /** 20 items at positions from 30 on; the belt stands. */
    private static LabelStation twentyItems() {
        LabelStation x = new LabelStation();
        x.setPlaces(100, 200, 260, 900, 1000);
        x.set(0, 10);
        x.start();
        for (int number = 0; number < 20; number++) {
            x.feed(0);
            x.run(3);
        }
        x.stop();
        return x;
    }

    // ---- 1 to 5

    private static void emptyBeltAndInitialValues() {
        Check.sentence("1: a station with an empty belt and the initial values");
        LabelStation x = new LabelStation();
        int[] initial = {5, 8, 4, 10, 5, 10, 50, 100, 200, 260, 400, 500, 0};
        for (int what = 0; what <= 12; what++) {
            Check.due("value(" + what + ")", x.value(what), initial[what]);
        }
        for (int what = 0; what <= 7; what++) {
            Check.due("status(" + what + ")", x.status(what), 0);
        }
        for (int what = 0; what <= 17; what++) {
            Check.due("counter(" + what + ")", x.counter(what), 0);
        }
        Check.outOfBounds("numberAt(0, false)", x, () -> x.numberAt(0, false));
        Check.outOfBounds("numberAt(0, true)", x, () -> x.numberAt(0, true));
        Check.illegalState("undo()", x, () -> x.undo());
        Check.due("jam(false)", x.jam(false), false);
        Check.due("clearText()", x.clearText(), 0);
    }

    private static void placesRefused(int... p) {
        LabelStation x = new LabelStation();
        Check.illegalArgument("setPlaces(" + java.util.Arrays.toString(p) + ")", x,
                () -> x.setPlaces(p[0], p[1], p[2], p[3], p[4]));
    }

    private static void placesTaken(int... p) {
        LabelStation x = new LabelStation();
        Check.due("setPlaces(" + java.util.Arrays.toString(p) + ")", x.setPlaces(p[0], p[1], p[2], p[3], p[4]), 500);
        for (int place = 0; place < 5; place++) {
            Check.due("value(" + (7 + place) + ")", x.value(7 + place), p[place]);
        }
    }

    private static void labelerPlace() {
        Check.sentence("2: labeler: 1 to camera - 1");
        placesTaken(1, 200, 260, 400, 500);
        placesTaken(199, 200, 260, 400, 500);
        placesRefused(0, 200, 260, 400, 500);
        placesRefused(200, 200, 260, 400, 500);
        placesRefused(201, 200, 260, 400, 500);
        for (int far : FAR) {
            placesRefused(far, 200, 260, 400, 500);
        }
    }

    private static void cameraPlace() {
        Check.sentence("2: camera: labeler + 1 to second - 1");
        placesTaken(100, 101, 260, 400, 500);
        placesTaken(100, 259, 260, 400, 500);
        placesRefused(100, 100, 260, 400, 500);
        placesRefused(100, 260, 260, 400, 500);
        placesRefused(100, 99, 260, 400, 500);
        placesRefused(100, 261, 260, 400, 500);
        for (int far : FAR) {
            placesRefused(100, far, 260, 400, 500);
        }
    }

    private static void secondPlace() {
        Check.sentence("2: second: camera + 1 to gate - 1");
        placesTaken(100, 200, 201, 400, 500);
        placesTaken(100, 200, 399, 400, 500);
        placesRefused(100, 200, 200, 400, 500);
        placesRefused(100, 200, 400, 400, 500);
        placesRefused(100, 200, 199, 400, 500);
        placesRefused(100, 200, 401, 400, 500);
        for (int far : FAR) {
            placesRefused(100, 200, far, 400, 500);
        }
    }

    private static void gatePlace() {
        Check.sentence("2: gate: second + 1 to exit - 1");
        placesTaken(100, 200, 260, 261, 500);
        placesTaken(100, 200, 260, 499, 500);
        placesRefused(100, 200, 260, 260, 500);
        placesRefused(100, 200, 260, 500, 500);
        placesRefused(100, 200, 260, 259, 500);
        placesRefused(100, 200, 260, 501, 500);
        for (int far : FAR) {
            placesRefused(100, 200, 260, far, 500);
        }
    }

    private static void exitPlace() {
        Check.sentence("2: exit: gate + 1 to 1000");
        placesTaken(100, 200, 260, 400, 401);
        placesTaken(100, 200, 260, 400, 1000);
        placesRefused(100, 200, 260, 400, 400);
        placesRefused(100, 200, 260, 400, 1001);
        placesTaken(1, 2, 3, 4, 5);
        placesTaken(996, 997, 998, 999, 1000);
        placesRefused(0, 1, 2, 3, 4);
        placesRefused(997, 998, 999, 1000, 1001);
        for (int far : FAR) {
            placesRefused(100, 200, 260, 400, far);
        }
    }

    private static void previousExit() {
        Check.sentence("2: Returns the previous position of the exit.");
        LabelStation x = new LabelStation();
        Check.due("the first time", x.setPlaces(1, 2, 3, 4, 5), 500);
        Check.due("the second time", x.setPlaces(1, 2, 3, 4, 1000), 5);
        Check.due("the third time", x.setPlaces(1, 2, 3, 4, 6), 1000);
    }

    private static void placesWithAnItem() {
        Check.sentence("2: if there is an item on the belt");
        LabelStation x = smallWith(0);
        Check.move(x, 0, 1);
        x.run(39);
        Check.move(x, 0, 5);
        x.run(12);
        Check.due("an item, no record", x.status(3) * 10 + x.status(4), 10);
        Check.illegalState("setPlaces()", x, () -> x.setPlaces(1, 2, 3, 4, 5));
        Check.illegalArgument("setPlaces() out of order", x, () -> x.setPlaces(1, 2, 3, 4, 4));
        x.take(0);
        Check.due("setPlaces() without it", x.setPlaces(1, 2, 3, 4, 5), 50);
    }

    private static void placesWithARecord() {
        Check.sentence("2: or a record in the register");
        LabelStation x = smallWith(0);
        x.take(0);
        Check.due("a record, no item", x.status(3) * 10 + x.status(4), 1);
        Check.illegalState("setPlaces()", x, () -> x.setPlaces(1, 2, 3, 4, 5));
        Check.illegalArgument("setPlaces() out of range", x, () -> x.setPlaces(1, 2, 3, 4, 1001));
        x.run(40);
        Check.due("an expectation, no record", x.status(6) * 10 + x.status(4), 10);
        Check.due("setPlaces() without it", x.setPlaces(1, 2, 3, 4, 5), 50);
    }

    private static void settingNumbers() {
        Check.sentence("3: what: 0 the speed .. 6 the labels");
        LabelStation x = new LabelStation();
        for (int what = 0; what <= 6; what++) {
            LabelStation y = new LabelStation();
            y.set(what, 7);
            for (int other = 0; other <= 12; other++) {
                Check.due("value(" + other + ")", y.value(other), other == what ? 7 : x.value(other));
            }
        }
        for (int what : new int[] {-1, 7, 8, 12, FAR[0], FAR[1]}) {
            for (int value : new int[] {-1, 0, 1, 7, FAR[0], FAR[1]}) {
                Check.illegalArgument("set(" + what + ", " + value + ")", x, () -> x.set(what, value));
            }
        }
    }

    private static void settingRanges() {
        Check.sentence("3: value: the new value, in its range");
        int[] least = {1, 1, 1, 1, 1, 0, 0};
        int[] most = {10, 100, 50, 100, 20, 20, 1000};
        LabelStation x = new LabelStation();
        for (int what = 0; what <= 6; what++) {
            int of = what;
            x.set(what, least[what]);
            Check.due("value(" + what + "), the least", x.value(what), least[what]);
            x.set(what, most[what]);
            Check.due("value(" + what + "), the most", x.value(what), most[what]);
            for (int value : new int[] {least[what] - 1, most[what] + 1, FAR[0], FAR[1]}) {
                Check.illegalArgument("set(" + of + ", " + value + ")", x, () -> x.set(of, value));
            }
        }
    }

    private static void previousValue() {
        Check.sentence("3: Returns the previous value.");
        int[] initial = {5, 8, 4, 10, 5, 10, 50};
        for (int what = 0; what <= 6; what++) {
            LabelStation x = new LabelStation();
            Check.due("the first time", x.set(what, 2), initial[what]);
            Check.due("the second time", x.set(what, 3), 2);
            Check.due("the third time", x.set(what, 3), 3);
        }
        LabelStation y = smallWith(0);
        y.run(10);
        Check.due("labels after one was used", y.set(6, 0), 49);
    }

    private static void valueNumbers() {
        Check.sentence("4: what: 0 to 6 as for set(); 7 to 11 the places ..; 12 the number of consecutive rejects");
        LabelStation x = smallWith(1);
        int[] due = {1, 2, 4, 10, 5, 0, 49, 10, 20, 30, 40, 50, 1};
        x.run(40);
        for (int what = 0; what <= 12; what++) {
            Check.due("value(" + what + ")", x.value(what), due[what]);
        }
        for (int what : new int[] {-1, 13, FAR[0], FAR[1]}) {
            Check.illegalArgument("value(" + what + ")", x, () -> x.value(what));
        }
    }

    private static void jammedBefore() {
        Check.sentence("5: Returns whether it was jammed before.");
        LabelStation x = new LabelStation();
        boolean[] calls = {false, true, true, false, false, true};
        boolean before = false;
        for (boolean jammed : calls) {
            Check.due("jam(" + jammed + ")", x.jam(jammed), before);
            before = jammed;
        }
    }

    // ---- 6 to 8

    private static void startReturns() {
        Check.sentence("6: Returns the number of items on the belt.");
        Check.due("start() without items", new LabelStation().start(), 0);
        Check.due("start() with 20 items", twentyItems().start(), 20);
        LabelStation x = twentyItems();
        x.take(3);
        Check.due("start() with 19 items and 20 records", x.start(), 19);
    }

    private static void startRefused() {
        Check.sentence("6: if it is running, or there is an alarm");
        LabelStation x = smallWith(1);
        Check.illegalState("start() while it runs", x, () -> x.start());
        x.set(4, 1);
        x.run(40);
        Check.due("alarm and belt", x.status(2) * 10 + x.status(1), 10);
        Check.illegalState("start() with an alarm", x, () -> x.start());
        x.reset();
        Check.due("start() after reset()", x.start(), 0);
    }

    private static void stopReturns() {
        Check.sentence("7: Returns the number of items on the belt.");
        LabelStation x = twentyItems();
        x.start();
        Check.due("stop() with 20 items", x.stop(), 20);
        LabelStation y = new LabelStation();
        y.start();
        Check.due("stop() without items", y.stop(), 0);
    }

    private static void stopRefused() {
        Check.sentence("7: if it is not running");
        LabelStation x = smallWith(1);
        x.stop();
        Check.illegalState("stop() after stop()", x, () -> x.stop());
        x.start();
        x.set(4, 1);
        x.run(40);
        Check.illegalState("stop() after an alarm", x, () -> x.stop());
        LabelStation y = new LabelStation();
        Check.illegalState("stop() at first", y, () -> y.stop());
    }

    private static void resetReturns() {
        Check.sentence("8: Returns the alarm that there was.");
        LabelStation x = smallWith(1);
        x.set(2, 20);
        x.set(4, 1);
        x.run(40);
        Check.due("reset() of 1", x.reset(), 1);
        x.run(11);
        Check.due("reset() of 2", x.reset(), 2);
        x.run(9);
        Check.due("reset() of 3", x.reset(), 3);
        x.start();
        x.feed(0);
        x.take(1);
        x.run(30);
        x.feed(0);
        Check.move(x, 2, 49);
        x.run(1);
        Check.due("reset() of 4", x.reset(), 4);
        Check.due("no alarm, and a belt that stands", x.status(2) * 10 + x.status(1), 0);
    }

    private static void resetRefused() {
        Check.sentence("8: if there is no alarm");
        LabelStation x = smallWith(1);
        Check.illegalState("reset()", x, () -> x.reset());
        x.set(4, 1);
        x.run(39);
        Check.illegalState("reset() a tick before the alarm", x, () -> x.reset());
        x.run(1);
        x.reset();
        Check.illegalState("reset() again", x, () -> x.reset());
    }

    // ---- 9 to 12

    private static void feedQualities() {
        Check.sentence("9: quality: 0 to 3");
        for (int quality = 0; quality <= 3; quality++) {
            LabelStation x = new LabelStation();
            Check.due("feed(" + quality + ")", x.feed(quality), 0);
            Check.due("item(0, 1)", x.item(0, 1), quality);
        }
        LabelStation y = new LabelStation();
        for (int quality : new int[] {-1, 4, FAR[0], FAR[1]}) {
            Check.illegalArgument("feed(" + quality + ")", y, () -> y.feed(quality));
        }
        Check.due("feed(0): no number was used", y.feed(0), 0);
    }

    private static void feedWithTwentyItems() {
        Check.sentence("9: if there are 20 items on the belt");
        LabelStation x = twentyItems();
        Check.illegalState("feed(0)", x, () -> x.feed(0));
        Check.illegalArgument("feed(4)", x, () -> x.feed(4));
        x.take(0);
        Check.due("feed(0) with 19 items", x.feed(0), 20);
    }

    private static void feedWithAnItemBelowThirty() {
        Check.sentence("9: or an item .. at a position below 30");
        LabelStation x = smallWith(0);
        x.run(35);
        for (int position : new int[] {0, 1, 15, 28, 29}) {
            Check.move(x, 0, position);
            Check.illegalState("feed(0), an item at " + position, x, () -> x.feed(0));
            Check.illegalArgument("feed(-1), an item at " + position, x, () -> x.feed(-1));
        }
        Check.move(x, 0, 30);
        Check.due("feed(0), an item at 30", x.feed(0), 1);
    }

    private static void feedWithARecordBelowThirty() {
        Check.sentence("9: or .. a record at a position below 30");
        LabelStation x = smallWith(0);
        x.take(0);
        for (int position = 0; position <= 29; position++) {
            Check.illegalState("feed(0), a record at " + position, x, () -> x.feed(0));
            x.run(1);
        }
        Check.due("feed(0), a record at 30", x.feed(0), 1);
    }

    private static void slipItems() {
        Check.sentence("10: item: number of an item on the belt");
        LabelStation x = smallWith(0);
        for (int item : new int[] {-1, 1, FAR[0], FAR[1]}) {
            Check.noSuchElement("slip(" + item + ", 0)", x, () -> x.slip(item, 0));
            Check.noSuchElement("slip(" + item + ", 31)", x, () -> x.slip(item, 31));
        }
        x.take(0);
        Check.noSuchElement("slip(0, 0) of an item that was taken", x, () -> x.slip(0, 0));
        LabelStation y = smallWith(0);
        y.run(50);
        Check.due("its record", y.record(0, 0), 50);
        Check.noSuchElement("slip(0, 0) of an item that has left", y, () -> y.slip(0, 0));
        LabelStation z = smallWith(1);
        z.run(40);
        Check.noSuchElement("slip(0, 0) of an item on its way to the bin", z, () -> z.slip(0, 0));
    }

    private static void slipPulses() {
        Check.sentence("10: pulses: -30 to 30");
        LabelStation x = new LabelStation();
        x.feed(0);
        Check.due("slip(0, 30)", x.slip(0, 30), 30);
        Check.due("slip(0, 30)", x.slip(0, 30), 60);
        Check.due("slip(0, -30)", x.slip(0, -30), 30);
        Check.due("slip(0, 0)", x.slip(0, 0), 30);
        Check.due("its record", x.record(0, 0), 0);
        x.slip(0, 30);
        for (int pulses : new int[] {-31, 31, FAR[0], FAR[1]}) {
            Check.illegalArgument("slip(0, " + pulses + ")", x, () -> x.slip(0, pulses));
        }
    }

    private static void slipPositions() {
        Check.sentence("10: or the new position would be below 0, or the position of the exit or more");
        LabelStation x = Check.small();
        x.feed(0);
        Check.illegalArgument("slip(0, -1) at 0", x, () -> x.slip(0, -1));
        x.slip(0, 7);
        Check.illegalArgument("slip(0, -8) at 7", x, () -> x.slip(0, -8));
        Check.due("slip(0, -7) at 7", x.slip(0, -7), 0);
        Check.due("slip(0, 30)", x.slip(0, 30), 30);
        Check.illegalArgument("slip(0, 20) at 30", x, () -> x.slip(0, 20));
        Check.illegalArgument("slip(0, 21) at 30", x, () -> x.slip(0, 21));
        Check.due("slip(0, 19) at 30", x.slip(0, 19), 49);
        Check.illegalArgument("slip(0, 1) at 49", x, () -> x.slip(0, 1));
    }

    private static void takeItems() {
        Check.sentence("11: item: number of an item on the belt .. Returns its position.");
        LabelStation x = smallWith(0);
        for (int item : new int[] {-1, 1, FAR[0], FAR[1]}) {
            Check.noSuchElement("take(" + item + ")", x, () -> x.take(item));
        }
        Check.due("take(0) at 0", x.take(0), 0);
        Check.noSuchElement("take(0) again", x, () -> x.take(0));
        LabelStation y = smallWith(0);
        y.run(49);
        Check.due("take(0) before the exit", y.take(0), 49);
        LabelStation z = smallWith(0);
        z.run(50);
        Check.noSuchElement("take(0) of an item that has left", z, () -> z.take(0));
        LabelStation w = smallWith(1);
        w.run(40);
        Check.noSuchElement("take(0) of an item on its way to the bin", w, () -> w.take(0));
    }

    private static void takenRecordStays() {
        Check.sentence("11: (Its record stays.)");
        LabelStation x = smallWith(0);
        x.run(15);
        x.slip(0, 3);
        Check.due("take(0)", x.take(0), 18);
        Check.due("record(0, 0)", x.record(0, 0), 15);
        Check.due("items and records", x.status(3) * 10 + x.status(4), 1);
    }

    private static void runTicks() {
        Check.sentence("12: ticks: 0 to 1000 .. Returns the present tick afterwards.");
        LabelStation x = new LabelStation();
        Check.due("run(0)", x.run(0), 0);
        Check.due("run(1)", x.run(1), 1);
        Check.due("run(1000)", x.run(1000), 1001);
        Check.due("run(0)", x.run(0), 1001);
        for (int ticks : new int[] {-1, 1001, FAR[0], FAR[1]}) {
            Check.illegalArgument("run(" + ticks + ")", x, () -> x.run(ticks));
        }
        LabelStation y = new LabelStation();
        for (int call = 1; call <= 500; call++) {
            y.run(1000);
        }
        Check.due("status(0) after 500 calls", y.status(0), 500_000);
    }

    // ---- 13 to 19

    private static void statusNumbers() {
        Check.sentence("13: what: 0 the present tick .. 7 the number of items on their way to the bin");
        LabelStation x = new LabelStation();
        for (int what = 0; what <= 7; what++) {
            Check.due("status(" + what + ")", x.status(what), 0);
        }
        for (int what : new int[] {-1, 8, FAR[0], FAR[1]}) {
            Check.illegalArgument("status(" + what + ")", x, () -> x.status(what));
        }
        LabelStation y = smallWith(1);
        y.set(4, 1);
        y.run(39);
        Check.due("tick, belt and alarm", y.status(0) * 100 + y.status(1) * 10 + y.status(2), 3910);
        Check.due("items and records", y.status(3) * 10 + y.status(4), 11);
        y.run(1);
        Check.due("tick, belt and alarm", y.status(0) * 100 + y.status(1) * 10 + y.status(2), 4001);
        Check.due("items and records", y.status(3) * 10 + y.status(4), 0);
    }

    private static void statusValues() {
        Check.sentence("13: the number of verdicts that are not due yet, .. open expectations, .. on their way");
        LabelStation x = smallWith(1);
        int[][] due = {{19, 0, 0, 0}, {20, 1, 0, 0}, {21, 1, 0, 0}, {22, 0, 0, 0}, {39, 0, 0, 0}, {40, 0, 1, 1},
            {43, 0, 1, 1}, {44, 0, 0, 0}};
        for (int[] row : due) {
            x.run(row[0] - x.status(0));
            Check.due("verdicts at " + row[0], x.status(5), row[1]);
            Check.due("expectations at " + row[0], x.status(6), row[2]);
            Check.due("on their way at " + row[0], x.status(7), row[3]);
        }
    }

    private static void itemNumbers() {
        Check.sentence("14: if there is no such item on the belt");
        LabelStation x = smallWith(3);
        for (int item : new int[] {-1, 1, FAR[0], FAR[1]}) {
            Check.noSuchElement("item(" + item + ", 0)", x, () -> x.item(item, 0));
            Check.noSuchElement("item(" + item + ", 3)", x, () -> x.item(item, 3));
        }
        x.run(30);
        x.feed(0);
        x.take(0);
        Check.noSuchElement("item(0, 0) of an item that was taken", x, () -> x.item(0, 0));
        Check.due("item(1, 0)", x.item(1, 0), 0);
        LabelStation y = smallWith(0);
        y.run(50);
        Check.noSuchElement("item(0, 0) of an item that has left", y, () -> y.item(0, 0));
    }

    private static void itemWhat() {
        Check.sentence("14: what: 0 its position, 1 its quality, 2 1 if it has a label, otherwise 0");
        LabelStation x = smallWith(3);
        x.run(9);
        Check.due("all of it", x.item(0, 0) * 100 + x.item(0, 1) * 10 + x.item(0, 2), 930);
        x.run(1);
        Check.due("all of it", x.item(0, 0) * 100 + x.item(0, 1) * 10 + x.item(0, 2), 1031);
        for (int what : new int[] {-1, 3, FAR[0], FAR[1]}) {
            Check.illegalArgument("item(0, " + what + ")", x, () -> x.item(0, what));
        }
    }

    private static void recordNumbers() {
        Check.sentence("15: if there is no such record in the register");
        LabelStation x = smallWith(0);
        for (int record : new int[] {-1, 1, FAR[0], FAR[1]}) {
            Check.noSuchElement("record(" + record + ", 0)", x, () -> x.record(record, 0));
            Check.noSuchElement("record(" + record + ", 5)", x, () -> x.record(record, 5));
        }
        x.run(50);
        Check.due("record(0, 0) at the exit", x.record(0, 0), 50);
        x.run(1);
        Check.noSuchElement("record(0, 0) beyond it", x, () -> x.record(0, 0));
        LabelStation y = smallWith(1);
        y.run(40);
        Check.noSuchElement("record(0, 0) after its reject", y, () -> y.record(0, 0));
    }

    private static void recordWhat() {
        Check.sentence("15: what: 0 its position .. 4 1 if an item has been matched with it, otherwise 0");
        LabelStation x = smallWith(0);
        int[][] due = {{0, 0, 0, 0, 0}, {21, 0, 0, 0, 0}, {22, 1, 0, 0, 0}, {39, 1, 0, 0, 0}, {40, 1, 0, 1, 0},
            {49, 1, 0, 1, 0}, {50, 1, 0, 1, 1}};
        for (int[] row : due) {
            x.run(row[0] - x.status(0));
            for (int what = 0; what <= 4; what++) {
                Check.due("record(0, " + what + ") at " + row[0], x.record(0, what), row[what]);
            }
        }
        for (int what : new int[] {-1, 5, FAR[0], FAR[1]}) {
            Check.illegalArgument("record(0, " + what + ")", x, () -> x.record(0, what));
        }
        LabelStation y = smallWith(0);
        y.jam(true);
        y.run(10);
        Check.due("record(0, 2) with a label fault", y.record(0, 2), 1);
    }

    private static void numberAtIndexes() {
        Check.sentence("16: index, from 0, in ascending order of the numbers .. if there is no such index");
        LabelStation x = twentyItems();
        x.take(0);
        x.take(10);
        x.take(19);
        for (int index = 0; index < 17; index++) {
            Check.due("numberAt(, false)", x.numberAt(index, false), index < 9 ? index + 1 : index + 2);
        }
        for (int index = 0; index < 20; index++) {
            Check.due("numberAt(, true)", x.numberAt(index, true), index);
        }
        for (int index : new int[] {-1, 17, 20, FAR[0], FAR[1]}) {
            Check.outOfBounds("numberAt(" + index + ", false)", x, () -> x.numberAt(index, false));
        }
        for (int index : new int[] {-1, 20, 21, FAR[0], FAR[1]}) {
            Check.outOfBounds("numberAt(" + index + ", true)", x, () -> x.numberAt(index, true));
        }
    }

    private static void counterNumbers() {
        Check.sentence("17: what: 0 to 17");
        LabelStation x = new LabelStation();
        for (int what = 0; what <= 17; what++) {
            Check.due("counter(" + what + ")", x.counter(what), 0);
        }
        for (int what : new int[] {-1, 18, FAR[0], FAR[1]}) {
            Check.illegalArgument("counter(" + what + ")", x, () -> x.counter(what));
        }
    }

    private static void reconciled() {
        Check.sentence("18: items fed, minus those that left at the exit (escaped ones included), were diverted, were "
                + "taken by hand, or are on the belt; .. minus the records that left as passed, ..");
        LabelStation x = Check.small();
        x.start();
        int[] qualities = {0, 1, 0, 0, 1};
        for (int number = 0; number < qualities.length; number++) {
            x.feed(qualities[number]);
            for (int tick = 0; tick < 30; tick++) {
                if (x.status(2) != 0) {
                    x.reset();
                    x.start();
                }
                x.run(1);
                Check.due("reconcile(true)", x.reconcile(true), 0);
                Check.due("reconcile(false)", x.reconcile(false), 0);
            }
            if (number == 2) {
                x.take(number);
            }
            if (number == 3) {
                Check.move(x, number, 49);
            }
        }
        x.run(60);
        Check.due("left, diverted, taken", x.counter(8) * 100 + x.counter(2) * 10 + x.counter(7), 221);
        Check.due("escaped", x.counter(9), 1);
        Check.due("reconcile(true)", x.reconcile(true), 0);
        Check.due("reconcile(false)", x.reconcile(false), 0);
    }

    private static void goodShareOfNone() {
        Check.sentence("19: 0.0 if there are none");
        LabelStation x = smallWith(0);
        Check.due("goodShare() with a record in the register", x.goodShare(), 0.0);
        x.run(50);
        Check.due("goodShare() with a record that is passed and matched", x.goodShare(), 0.0);
        Check.due("goodShare() without records", new LabelStation().goodShare(), 0.0);
    }

    private static void goodShareOfSome() {
        Check.sentence("19: the number of the former, converted to double, divided by that of the latter");
        LabelStation x = smallWith(0);
        x.run(51);
        Check.due("1 passed of 1", x.goodShare(), 1.0);
        x.feed(1);
        x.run(51);
        Check.due("1 passed, 1 rejected", x.goodShare(), 0.5);
        x.feed(0);
        x.run(45);
        x.take(2);
        x.run(6);
        Check.due("1 passed, 1 rejected, 1 missing", x.goodShare(), 1.0 / 3.0);
        LabelStation y = smallWith(1);
        y.run(40);
        Check.due("1 rejected", y.goodShare(), 0.0);
    }

    // ---- 20 to 22

    private static void spareSpeeds() {
        Check.sentence("20: speed: 1 to 10");
        LabelStation x = new LabelStation();
        for (int speed = 1; speed <= 10; speed++) {
            Check.due("spare(" + speed + ")", x.spare(speed), 200 - (8 * speed - 1));
        }
        for (int speed : new int[] {0, 11, -1, FAR[0], FAR[1]}) {
            Check.illegalArgument("spare(" + speed + ")", x, () -> x.spare(speed));
        }
        x.setPlaces(1, 2, 3, 4, 5);
        x.set(1, 100);
        Check.due("the least there is", x.spare(10), 2 - 999);
        x.setPlaces(1, 2, 3, 999, 1000);
        x.set(1, 1);
        Check.due("the most there is", x.spare(1), 997);
    }

    private static void spareAboveZero() {
        Check.sentence("20: it is above 0 exactly if such a verdict comes before the gate acts");
        for (int speed = 1; speed <= 10; speed++) {
            for (int gap = 40; gap <= 60; gap++) {
                LabelStation x = new LabelStation();
                int camera = 3 * speed + 1;
                x.setPlaces(1, camera, camera + 1, camera + gap, 999);
                x.set(0, speed);
                x.set(1, 5);
                x.start();
                x.feed(0);
                x.run(150);
                boolean inTime = x.counter(13) == 0;
                Check.due("speed " + speed + ", gap " + gap, x.spare(speed) > 0, inTime);
            }
        }
    }

    private static void fastestSpeed() {
        Check.sentence("21: the highest speed with which spare() is above 0");
        for (int delay = 1; delay <= 100; delay++) {
            LabelStation x = new LabelStation();
            x.set(1, delay);
            int fastest = x.fastest();
            Check.due("spare() of it, delay " + delay, x.spare(fastest) > 0, true);
            for (int speed = fastest + 1; speed <= 10; speed++) {
                Check.due("spare(" + speed + "), delay " + delay, x.spare(speed) > 0, false);
            }
        }
        Check.due("with the present speed 5", new LabelStation().fastest(), 10);
    }

    private static void fastestNone() {
        Check.sentence("21: NONE if there is none");
        LabelStation x = new LabelStation();
        x.setPlaces(1, 2, 3, 4, 5);
        x.set(1, 2);
        Check.due("spare(1) of 1", x.spare(1) * 10 + x.fastest(), 11);
        x.set(1, 3);
        Check.due("spare(1) of 0", x.spare(1), 0);
        Check.due("fastest()", x.fastest(), LabelStation.NONE);
        x.set(1, 100);
        Check.due("fastest()", x.fastest(), -1);
    }

    private static void fateNumbers() {
        Check.sentence("22: if there is no such record in the register");
        LabelStation x = smallWith(0);
        for (int record : new int[] {-1, 1, FAR[0], FAR[1]}) {
            Check.noSuchElement("fate(" + record + ")", x, () -> x.fate(record));
        }
        x.run(50);
        Check.due("fate(0) at the exit", x.fate(0), 1);
        x.run(1);
        Check.noSuchElement("fate(0) beyond it", x, () -> x.fate(0));
    }

    private static void fateAnswers() {
        Check.sentence("22: Returns 1 if it leaves as passed, 2 if it is rejected, 3 if it leaves as missing");
        Check.due("a good one", smallWith(0).fate(0), 1);
        Check.due("a bad one", smallWith(1).fate(0), 2);
        LabelStation x = smallWith(0);
        x.run(49);
        x.take(0);
        Check.due("one whose item was taken behind the gate", x.fate(0), 3);
        LabelStation y = smallWith(0);
        y.run(30);
        y.feed(1);
        y.run(5);
        Check.due("of two, the first one", y.fate(0), 1);
        Check.due("of two, the second one", y.fate(1), 2);
        LabelStation z = smallWith(0);
        z.stop();
        Check.due("on a belt that stands", z.fate(0), 1);
    }

    private static void fateWithinThousandTicks() {
        Check.sentence("22: until the record is not in the register any more, or 1000 have passed .. 0 if it is still "
                + "in the register after 1000 ticks");
        LabelStation x = new LabelStation();
        x.setPlaces(100, 200, 260, 400, 999);
        x.set(0, 1);
        x.set(5, 0);
        x.feed(0);
        Check.due("it leaves at the 1000th tick", x.fate(0), 1);
        x.set(5, 1);
        Check.due("it would leave at the 1001st", x.fate(0), 0);
        x.start();
        x.run(1);
        Check.due("one tick later", x.fate(0), 1);
        LabelStation y = new LabelStation();
        y.setPlaces(100, 200, 260, 999, 1000);
        y.set(0, 1);
        y.feed(1);
        Check.due("rejected at the 999th tick", y.fate(0), 2);
    }

    private static void fateWithAlarm() {
        Check.sentence("22: with the belt running if there is no alarm");
        LabelStation x = smallWith(1);
        x.set(4, 1);
        x.run(30);
        x.feed(0);
        Check.due("an alarm to come", x.fate(1), 0);
        x.run(10);
        Check.due("an alarm", x.status(2) * 10 + x.fate(1), 10);
        x.reset();
        Check.due("no alarm, and a belt that stands", x.status(1) * 10 + x.fate(1), 1);
    }

    private static void fateChangesNothing() {
        Check.sentence("22: The state does not change.");
        LabelStation x = smallWith(2);
        LabelStation y = smallWith(2);
        for (int tick = 0; tick < 50; tick++) {
            Check.due("fate(0)", x.fate(0), 1);
            x.run(1);
            y.run(1);
            Check.due("digest()", x.digest(), y.digest());
        }
    }

    // ---- 23 to 25

    private static void appendValues() {
        Check.sentence("23: value: the byte, 0 to 127 .. Returns the new length of the text.");
        LabelStation x = new LabelStation();
        Check.due("append(0)", x.append(0), 1);
        Check.due("append(127)", x.append(127), 2);
        for (int value : new int[] {-1, 128, 256 + '.', FAR[0], FAR[1]}) {
            Check.illegalArgument("append(" + value + ")", x, () -> x.append(value));
        }
        Check.due("clearText()", x.clearText(), 2);
    }

    private static void appendToFullText() {
        Check.sentence("23: if the text has 80 bytes");
        LabelStation x = new LabelStation();
        for (int length = 1; length <= 80; length++) {
            Check.due("append('.')", x.append('.'), length);
        }
        Check.illegalState("append('.')", x, () -> x.append('.'));
        Check.illegalArgument("append(-1)", x, () -> x.append(-1));
        Check.illegalArgument("append(128)", x, () -> x.append(128));
        x.clearText();
        Check.due("append('.') after clearText()", x.append('.'), 1);
    }

    private static void clearTextReturns() {
        Check.sentence("24: Returns the length that it had.");
        LabelStation x = new LabelStation();
        Check.due("of an empty text", x.clearText(), 0);
        for (int length : new int[] {1, 2, 79, 80}) {
            Check.write(x, ".".repeat(length));
            Check.due("of " + length, x.clearText(), length);
            Check.due("and again", x.clearText(), 0);
        }
    }

    private static void carryOutNumberOfCommands() {
        Check.sentence("25: Returns the number of commands");
        for (int length : new int[] {0, 1, 2, 79, 80}) {
            LabelStation x = new LabelStation();
            Check.write(x, ".".repeat(length));
            Check.due("carryOut()", x.carryOut(), length);
            Check.due("status(0)", x.status(0), length);
        }
        LabelStation y = new LabelStation();
        Check.write(y, "0:");
        Check.due("carryOut() of two commands, eleven ticks", y.carryOut(), 2);
    }

    private static void carryOutSyntaxError() {
        Check.sentence("25: -10 minus the syntax error position if there is a syntax error");
        LabelStation x = new LabelStation();
        for (int position : new int[] {0, 1, 78, 79}) {
            Check.write(x, ".".repeat(position) + "/");
            long before = x.digest();
            Check.due("carryOut()", x.carryOut(), -10 - position);
            Check.due("the digest", x.digest(), before);
        }
        Check.write(x, "00x");
        Check.due("behind a command that would throw", x.carryOut(), -12);
    }

    private static void carryOutCommandThatThrows() {
        Check.sentence("25: -1000 minus the index of the first command (from 0) that would throw an exception");
        LabelStation x = new LabelStation();
        x.set(0, 1);
        x.start();
        String[] texts = {"00", ":00", "::.0.1"};
        int[] due = {-1001, -1002, -1005};
        for (int index = 0; index < texts.length; index++) {
            Check.write(x, texts[index]);
            long before = x.digest();
            Check.due("carryOut() of " + texts[index], x.carryOut(), due[index]);
            Check.due("the digest", x.digest(), before);
        }
        Check.write(x, "0::.........0");
        Check.due("a tick too early", x.carryOut(), -1012);
        Check.write(x, "0::..........0");
        Check.due("in time", x.carryOut(), 14);
        Check.write(x, "0");
        Check.due("the first command", x.carryOut(), -1000);
        Check.write(x, ".".repeat(79) + "0");
        x.stop();
        Check.due("the last command of 80", x.carryOut(), -1079);
        Check.due("status(0)", x.status(0), 30);
    }

    private static void carryOutOneSavedState() {
        Check.sentence("25: Undoable, if nothing went wrong (one saved state for all commands).");
        LabelStation x = new LabelStation();
        long fresh = x.digest();
        x.start();
        Check.write(x, "0:1:2:");
        Check.due("carryOut()", x.carryOut(), 6);
        Check.due("undo()", x.undo(), 1);
        Check.due("items, records, ticks", x.status(3) + x.status(4) + x.status(0), 0);
        Check.write(x, "0:1:2");
        x.set(0, 1);
        Check.due("carryOut() with a fault", x.carryOut(), -1002);
        Check.write(x, "?");
        Check.due("carryOut() with a syntax error", x.carryOut(), -10);
        Check.due("undo() of set()", x.undo(), 1);
        Check.due("undo() of start()", x.undo(), 0);
        x.clearText();
        Check.due("the digest", x.digest(), fresh);
    }

    private static void carryOutLeavesTheText() {
        Check.sentence("25: The text stays as it is.");
        LabelStation x = new LabelStation();
        Check.write(x, ".:");
        for (int time = 1; time <= 5; time++) {
            Check.due("carryOut()", x.carryOut(), 2);
            Check.due("status(0)", x.status(0), 11 * time);
        }
        Check.due("clearText()", x.clearText(), 2);
        Check.write(x, "00.");
        x.carryOut();
        Check.due("clearText() after a fault", x.clearText(), 3);
    }

    // ---- 26 and 27

    private static void undoReturns() {
        Check.sentence("26: Returns the number of saved states that remain.");
        LabelStation x = new LabelStation();
        for (int calls = 1; calls <= 6; calls++) {
            for (int call = 0; call < calls; call++) {
                x.run(1);
            }
            for (int left = Math.min(4, calls) - 1; left >= 0; left--) {
                Check.due("undo()", x.undo(), left);
            }
        }
    }

    private static void undoRefused() {
        Check.sentence("26: if there is no saved state");
        LabelStation x = new LabelStation();
        Check.illegalState("undo() at first", x, () -> x.undo());
        x.run(1);
        x.undo();
        Check.illegalState("undo() after the last one", x, () -> x.undo());
    }

    private static void digestOfNew() {
        Check.sentence("27: Start with h = 2939 and, for each of the following values v, set h = 31 * h + v");
        int[] values = {0, 5, 8, 4, 10, 5, 10, 50, 100, 200, 260, 400, 500, 0, 0};
        long h = 2939;
        for (int v : values) {
            h = 31 * h + v;
        }
        for (int zero = 0; zero < 8 + 18 + 1; zero++) {
            h = 31 * h;
        }
        Check.due("digest()", new LabelStation().digest(), h);
    }

    private static void digestOverflows() {
        Check.sentence("27: with the overflow of long arithmetic ignored");
        LabelStation x = new LabelStation();
        boolean negative = false;
        boolean positive = false;
        for (int call = 0; call < 40; call++) {
            x.run(1);
            long want = 31 * Check.digestWithoutSaved(x) + Math.min(4, call + 1);
            Check.due("digest()", x.digest(), want);
        }
        for (int labels = 0; labels <= 1000; labels += 10) {
            LabelStation y = new LabelStation();
            y.set(6, labels);
            negative |= y.digest() < 0;
            positive |= y.digest() > 0;
            Check.due("digest()", y.digest(), 31 * Check.digestWithoutSaved(y) + 1);
        }
        Check.due("some are below 0", negative, true);
        Check.due("some are above 0", positive, true);
    }

    private static void digestValues() {
        Check.sentence("27: for each item on the belt, in ascending order, its number and ..; for each record ..");
        LabelStation x = twentyItems();
        Check.due("20 items and records", x.digest(), 31 * Check.digestWithoutSaved(x) + 4);
        x.take(0);
        x.take(19);
        x.slip(7, 30);
        x.jam(true);
        x.append('x');
        Check.due("fewer items", x.digest(), 31 * Check.digestWithoutSaved(x, 1, true) + 4);
        x.undo();
        Check.due("a saved state less", x.digest(), 31 * Check.digestWithoutSaved(x, 1, false) + 3);
    }
}
