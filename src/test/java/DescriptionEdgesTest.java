/** The sentences of the document's description (but for the ticks) that name a boundary, a test each. */
public final class DescriptionEdgesTest {
    private static final int GATE = 3;

    public static void main(String[] args) {
        entersAtZero();
        initialPlaces();
        nearIsWithinTheTolerance();
        smallestDifference();
        equallyNear();
        mostItems();
        mostItemsByText();
        numberedInOrder();
        recordHasTheSameNumber();
        numbersAreNotUsedAgain();
        initiallyNoLabel();
        initialRecord();
        registerUntilReject();
        registerUntilBeyondTheExit();
        speed();
        cameraDelay();
        binDelay();
        confirmationTime();
        limit();
        labels();
        initiallyStanding();
        alarmIsOnlyCounted();
        alarmsOneAndFourEndThePulses();
        alarmsTwoAndThreeLeaveNoPulse();
        mostText();
        digitsOfTheText();
        ticksOfTheText();
        firstSyntaxError();
        savesEvenWithoutChange();
        savesBeforeEachUndoableCall();
        othersSaveNothing();
        mostSavedStates();
        savesAllButTheText();
        Check.end("DescriptionEdgesTest");
    }

    // ---- belt

    private static void entersAtZero() {
        Check.sentence("an item or a record enters at position 0");
        LabelStation x = new LabelStation();
        x.start();
        for (int number = 0; number < 3; number++) {
            x.feed(0);
            Check.due("item(, 0)", x.item(number, 0), 0);
            Check.due("record(, 0)", x.record(number, 0), 0);
            x.run(6);
        }
    }

    private static void initialPlaces() {
        Check.sentence("the labeler at 100, the first camera at 200, the second camera at 260, the gate at 400, "
                + "and the exit at 500 (initial values)");
        LabelStation x = new LabelStation();
        int[] due = {100, 200, 260, 400, 500};
        for (int place = 0; place < due.length; place++) {
            Check.due("value(" + (7 + place) + ")", x.value(7 + place), due[place]);
        }
    }

    /** Whether an item is meant at this place (0 to 3) that is so far from it when its record is there. */
    private static boolean isMeant(int place, int gap, int tolerance) {
        int[] quality = {0, 0, 2, 1};
        LabelStation x = new LabelStation();
        x.set(0, 1);
        x.set(1, 1);
        x.set(5, tolerance);
        x.start();
        x.feed(quality[place]);
        x.run(x.value(7 + place) - 1);
        x.slip(0, gap);
        x.run(1);
        if (place == 0) {
            return x.item(0, 2) == 1;
        }
        if (place == GATE) {
            return x.status(7) == 1;
        }
        x.run(1);
        return x.record(0, 1) == 1;
    }

    private static void nearIsWithinTheTolerance() {
        Check.sentence("An item is near a place if the difference .. is at most the tolerance in absolute value");
        for (int place = 0; place <= GATE; place++) {
            for (int tolerance : new int[] {0, 1, 10, 19, 20}) {
                String told = "at place " + place + ", tolerance " + tolerance + ", ";
                Check.due(told + "the tolerance before", isMeant(place, tolerance, tolerance), true);
                Check.due(told + "the tolerance behind", isMeant(place, -tolerance, tolerance), true);
                Check.due(told + "one more before", isMeant(place, tolerance + 1, tolerance), false);
                Check.due(told + "one more behind", isMeant(place, -tolerance - 1, tolerance), false);
            }
        }
    }

    /** Which of the items 0 and 1 is meant at this place, when record 1 is there and they are so far from it. */
    private static int meant(int place, int gapOf0, int gapOf1) {
        int[] quality0 = {0, 0, 1, 0};
        int[] quality1 = {0, 1, 2, 1};
        LabelStation x = new LabelStation();
        x.set(0, 1);
        x.set(1, 1);
        x.jam(place == 0);
        x.start();
        x.feed(quality0[place]);
        x.run(30);
        x.feed(quality1[place]);
        int before = x.value(7 + place) - 1;
        x.run(before);
        x.jam(false);
        Check.move(x, 0, before + gapOf0);
        Check.move(x, 1, before + gapOf1);
        x.run(1);
        if (place == 0) {
            return x.item(0, 2) == 1 ? 0 : 1;
        }
        if (place == GATE) {
            return x.numberAt(0, false) == 0 ? 1 : 0;
        }
        x.run(1);
        int verdictOf0 = place == 1 ? 1 : 2;
        return x.record(1, 1) == verdictOf0 ? 0 : 1;
    }

    private static void smallestDifference() {
        Check.sentence("the item at a place is, of the items that are near it, the one with the smallest "
                + "such difference");
        for (int place = 0; place <= GATE; place++) {
            for (int gap = 1; gap <= 10; gap++) {
                String told = "at place " + place + ", gap " + gap + ", ";
                Check.due(told + "1 is nearer, both before", meant(place, gap, gap - 1), 1);
                Check.due(told + "1 is nearer, behind", meant(place, gap, 1 - gap), 1);
                Check.due(told + "1 is nearer, before", meant(place, -gap, gap - 1), 1);
                Check.due(told + "0 is nearer", meant(place, 1 - gap, gap), 0);
            }
        }
    }

    private static void equallyNear() {
        Check.sentence("of two equally near ones the one with the lower number");
        for (int place = 0; place <= GATE; place++) {
            for (int gap = -10; gap <= 10; gap++) {
                Check.due("at place " + place + ", gap " + gap, meant(place, gap, -gap), 0);
                Check.due("at place " + place + ", both at gap " + gap, meant(place, gap, gap), 0);
            }
        }
    }

    /** Places so far that 20 items, 30 apart, come before the gate; the belt makes 10 pulses a tick. */
    private static LabelStation longBelt() {
        LabelStation x = new LabelStation();
        x.setPlaces(100, 200, 260, 900, 1000);
        x.set(0, 10);
        x.start();
        return x;
    }

    private static void mostItems() {
        Check.sentence("There are at most 20 items on the belt.");
        LabelStation x = longBelt();
        for (int number = 0; number < 20; number++) {
            Check.due("feed(0)", x.feed(0), number);
            x.run(3);
        }
        Check.due("items", x.status(3), 20);
        Check.illegalState("feed(0), the 21st", x, () -> x.feed(0));
        x.take(19);
        Check.due("feed(0) after a take", x.feed(0), 20);
        Check.due("items", x.status(3), 20);
    }

    private static void mostItemsByText() {
        Check.sentence("There are at most 20 items on the belt. (fed by a text)");
        LabelStation x = longBelt();
        Check.write(x, "0...".repeat(20));
        Check.due("carryOut() of 20 items", x.carryOut(), 80);
        Check.due("items", x.status(3), 20);
        Check.due("carryOut() of the 21st", x.carryOut(), -1000);
        Check.due("items", x.status(3), 20);
        x.take(0);
        Check.due("carryOut() of the 21st and the 22nd", x.carryOut(), -1004);
        Check.write(x, "0");
        Check.due("carryOut() with 19 items", x.carryOut(), 1);
        Check.due("items", x.status(3), 20);
    }

    private static void numberedInOrder() {
        Check.sentence("Items are numbered from 0 in the order in which they are fed");
        LabelStation x = new LabelStation();
        x.start();
        Check.due("the first", x.feed(3), 0);
        x.run(6);
        Check.write(x, "2:1:");
        x.carryOut();
        Check.due("the second, by a text", x.item(1, 1), 2);
        Check.due("the third, by a text", x.item(2, 1), 1);
        Check.due("the fourth", x.feed(0), 3);
    }

    private static void recordHasTheSameNumber() {
        Check.sentence("each one gets a record with the same number");
        LabelStation x = new LabelStation();
        x.start();
        for (int number = 0; number < 5; number++) {
            int fed = x.feed(0);
            Check.due("numberAt(, true)", x.numberAt(number, true), fed);
            Check.due("numberAt(, false)", x.numberAt(number, false), fed);
            x.run(6);
        }
    }

    private static void numbersAreNotUsedAgain() {
        Check.sentence("numbers are not used again");
        LabelStation x = Check.small();
        x.start();
        Check.due("feed(0)", x.feed(0), 0);
        x.take(0);
        x.run(60);
        Check.due("nothing is left", x.status(3) + x.status(4), 0);
        x.reset();
        x.start();
        Check.due("feed(1) after a take", x.feed(1), 1);
        x.run(50);
        Check.due("feed(0) after a reject", x.feed(0), 2);
        x.run(60);
        Check.due("left at the exit", x.counter(8), 1);
        Check.due("feed(0) after one left at the exit", x.feed(0), 3);
    }

    private static void initiallyNoLabel() {
        Check.sentence("it has a label or not (initially not)");
        LabelStation x = new LabelStation();
        for (int quality = 0; quality <= 3; quality++) {
            LabelStation y = new LabelStation();
            y.feed(quality);
            Check.due("item(0, 2)", y.item(0, 2), 0);
        }
        x.start();
        x.feed(0);
        x.run(19);
        Check.due("item(0, 2) before the labeler", x.item(0, 2), 0);
    }

    // ---- records

    private static void initialRecord() {
        Check.sentence("a verdict (0 none ..), a label fault or not, and is passed or not yet");
        LabelStation x = new LabelStation();
        x.jam(true);
        x.feed(3);
        for (int what = 1; what <= 4; what++) {
            Check.due("record(0, " + what + ")", x.record(0, what), 0);
        }
    }

    private static void registerUntilReject() {
        Check.sentence("A record is in the register from its entry until it is rejected");
        LabelStation x = Check.small();
        x.start();
        x.feed(1);
        Check.due("records at the entry", x.status(4), 1);
        x.run(39);
        Check.due("record(0, 0) before the gate", x.record(0, 0), 39);
        x.run(1);
        Check.due("records after the reject", x.status(4), 0);
        Check.noSuchElement("record(0, 0)", x, () -> x.record(0, 0));
    }

    private static void registerUntilBeyondTheExit() {
        Check.sentence("or until it has left beyond the exit");
        for (int tolerance : new int[] {0, 1, 20}) {
            LabelStation x = Check.small();
            x.set(5, tolerance);
            x.start();
            x.feed(0);
            x.run(50 + tolerance);
            Check.due("at the exit plus the tolerance", x.record(0, 0), 50 + tolerance);
            x.run(1);
            Check.due("one further", x.status(4), 0);
            Check.noSuchElement("record(0, 0)", x, () -> x.record(0, 0));
        }
    }

    // ---- settings

    private static void speed() {
        Check.sentence("The speed is 1 to 10 pulses per tick, initially 5");
        LabelStation x = new LabelStation();
        x.start();
        x.feed(0);
        x.run(1);
        Check.due("initially", x.item(0, 0), 5);
        x.set(0, 1);
        x.run(1);
        Check.due("the least", x.item(0, 0), 6);
        x.set(0, 10);
        x.run(1);
        Check.due("the most", x.item(0, 0), 16);
        Check.illegalArgument("set(0, 0)", x, () -> x.set(0, 0));
        Check.illegalArgument("set(0, 11)", x, () -> x.set(0, 11));
    }

    /** How many ticks after the first camera the verdict comes. */
    private static int ticksToVerdict(LabelStation x) {
        x.start();
        x.feed(0);
        x.run(x.value(8));
        int ticks = 0;
        while (x.record(0, 1) == 0 && ticks < 200) {
            x.run(1);
            ticks++;
        }
        return ticks;
    }

    private static void cameraDelay() {
        Check.sentence("The camera delay is 1 to 100 ticks, initially 8");
        LabelStation x = new LabelStation();
        x.set(0, 1);
        Check.due("initially", ticksToVerdict(x), 8);
        for (int delay : new int[] {1, 2, 99, 100}) {
            LabelStation y = new LabelStation();
            y.set(0, 1);
            y.set(1, delay);
            Check.due("set(1, " + delay + ")", ticksToVerdict(y), delay);
        }
        Check.illegalArgument("set(1, 0)", x, () -> x.set(1, 0));
        Check.illegalArgument("set(1, 101)", x, () -> x.set(1, 101));
    }

    /** How many ticks after its reject an item is confirmed. */
    private static int ticksToBin(LabelStation x) {
        x.start();
        x.feed(1);
        x.run(40);
        int ticks = 0;
        while (x.counter(6) == 0 && ticks < 200) {
            x.run(1);
            ticks++;
        }
        return ticks;
    }

    private static void binDelay() {
        Check.sentence("the bin delay, 1 to 50 ticks, initially 4");
        LabelStation x = Check.small();
        Check.due("initially", ticksToBin(x), 4);
        for (int delay : new int[] {1, 2, 49, 50}) {
            LabelStation y = Check.small();
            y.set(3, 100);
            y.set(2, delay);
            Check.due("set(2, " + delay + ")", ticksToBin(y), delay);
        }
        Check.illegalArgument("set(2, 0)", x, () -> x.set(2, 0));
        Check.illegalArgument("set(2, 51)", x, () -> x.set(2, 51));
    }

    /** How many ticks after a reject, without an item, the alarm comes. */
    private static int ticksToAlarm(LabelStation x) {
        x.start();
        x.feed(1);
        x.run(30);
        x.take(0);
        x.run(10);
        int ticks = 0;
        while (x.status(2) == 0 && ticks < 200) {
            x.run(1);
            ticks++;
        }
        return ticks;
    }

    private static void confirmationTime() {
        Check.sentence("the confirmation time, 1 to 100 ticks, initially 10");
        LabelStation x = Check.small();
        Check.due("initially", ticksToAlarm(x), 11);
        for (int time : new int[] {1, 2, 99, 100}) {
            LabelStation y = Check.small();
            y.set(3, time);
            Check.due("set(3, " + time + ")", ticksToAlarm(y), time + 1);
        }
        Check.illegalArgument("set(3, 0)", x, () -> x.set(3, 0));
        Check.illegalArgument("set(3, 101)", x, () -> x.set(3, 101));
    }

    /** How many bad items are rejected until the alarm 1 comes. */
    private static int rejectsToAlarm(LabelStation x) {
        x.start();
        for (int rejects = 1; rejects <= 30; rejects++) {
            x.feed(1);
            x.run(40);
            if (x.status(2) == 1) {
                return rejects;
            }
            x.run(5);
        }
        return 0;
    }

    private static void limit() {
        Check.sentence("the limit of consecutive rejects, 1 to 20, initially 5");
        LabelStation x = Check.small();
        Check.due("initially", rejectsToAlarm(x), 5);
        for (int limit : new int[] {1, 2, 19, 20}) {
            LabelStation y = Check.small();
            y.set(4, limit);
            Check.due("set(4, " + limit + ")", rejectsToAlarm(y), limit);
        }
        Check.illegalArgument("set(4, 0)", x, () -> x.set(4, 0));
        Check.illegalArgument("set(4, 21)", x, () -> x.set(4, 21));
    }

    private static void labels() {
        Check.sentence("The labeler has labels, initially 50, and can be jammed, initially not.");
        LabelStation x = new LabelStation();
        x.setPlaces(10, 20, 30, 40, 50);
        x.set(0, 10);
        x.set(1, 1);
        x.start();
        for (int number = 0; number < 50; number++) {
            x.feed(0);
            x.run(1);
            Check.due("label of item " + number, x.item(number, 2) * 10 + x.record(number, 2), 10);
            x.run(2);
        }
        Check.due("labels left", x.value(6), 0);
        x.feed(0);
        x.run(1);
        Check.due("the 51st", x.item(50, 2) * 10 + x.record(50, 2), 1);
        Check.due("jam(true)", x.jam(true), false);
    }

    private static void initiallyStanding() {
        Check.sentence("The belt is running or not, initially not. There is at most one alarm (0 none, initially)");
        LabelStation x = new LabelStation();
        x.feed(0);
        x.run(1000);
        Check.due("item(0, 0)", x.item(0, 0), 0);
        Check.due("status(1)", x.status(1), 0);
        Check.due("status(2)", x.status(2), 0);
        Check.illegalState("stop()", x, () -> x.stop());
        Check.illegalState("reset()", x, () -> x.reset());
    }

    // ---- alarms

    /** A bad item is rejected at 40 and comes to the bin so much later than its expectation ends. */
    private static LabelStation rejected(int binDelay, int confirmation, int limit) {
        LabelStation x = Check.small();
        x.set(2, binDelay);
        x.set(3, confirmation);
        x.set(4, limit);
        x.start();
        x.feed(1);
        x.run(40);
        return x;
    }

    private static void alarmIsOnlyCounted() {
        Check.sentence("An alarm that occurs while there is one is only counted.");
        LabelStation x = rejected(20, 5, 1);
        Check.due("alarm 1", x.status(2), 1);
        x.run(6);
        Check.due("alarm 2 during 1", x.status(2) * 10 + x.counter(15), 11);
        x.run(14);
        Check.due("alarm 3 during 1", x.status(2) * 10 + x.counter(16), 11);
        Check.due("reset()", x.reset(), 1);
        Check.due("no alarm is behind it", x.status(2), 0);
        Check.illegalState("reset() again", x, () -> x.reset());

        LabelStation y = rejected(20, 5, 20);
        y.run(60);
        Check.due("alarm 3 during 2", y.status(2) * 100 + y.counter(15) * 10 + y.counter(16), 211);

        LabelStation z = new LabelStation();
        z.set(0, 1);
        z.start();
        z.feed(0);
        z.run(30);
        z.feed(0);
        z.run(30);
        Check.move(z, 0, 499);
        Check.move(z, 1, 499);
        z.run(1);
        Check.due("alarm 4 during 4", z.status(2) * 10 + z.counter(17), 42);
    }

    private static void alarmsOneAndFourEndThePulses() {
        Check.sentence("When an alarm occurs, the belt stops at once: no further pulses at this tick. (1 and 4)");
        for (int gate = 41; gate <= 49; gate++) {
            LabelStation x = new LabelStation();
            x.setPlaces(10, 20, 30, gate, 60);
            x.set(0, 10);
            x.set(4, 1);
            x.start();
            x.feed(1);
            x.run(4);
            x.feed(0);
            x.run(1);
            Check.due("pulses until alarm 1", x.item(1, 0), gate - 40);
            Check.due("alarm and belt", x.status(2) * 10 + x.status(1), 10);
        }
        for (int ahead = 11; ahead <= 19; ahead++) {
            LabelStation y = new LabelStation();
            y.set(0, 10);
            y.start();
            y.feed(0);
            y.run(48);
            y.slip(0, ahead);
            y.run(1);
            Check.due("pulses until alarm 4", y.record(0, 0), 500 - ahead);
            Check.due("alarm and belt", y.status(2) * 10 + y.status(1), 40);
            y.run(1);
            Check.due("none at the next tick", y.record(0, 0), 500 - ahead);
        }
    }

    private static void alarmsTwoAndThreeLeaveNoPulse() {
        Check.sentence("When an alarm occurs, the belt stops at once: no further pulses at this tick. (2 and 3)");
        LabelStation x = rejected(20, 5, 20);
        x.feed(0);
        x.run(5);
        Check.due("before alarm 2", x.item(1, 0), 5);
        x.run(1);
        Check.due("at alarm 2", x.item(1, 0), 5);
        Check.due("alarm and belt", x.status(2) * 10 + x.status(1), 20);
        x.reset();
        x.start();
        x.run(13);
        Check.due("before alarm 3", x.item(1, 0), 18);
        x.run(1);
        Check.due("at alarm 3", x.item(1, 0), 18);
        Check.due("alarm and belt", x.status(2) * 10 + x.status(1), 30);
    }

    // ---- text

    private static void mostText() {
        Check.sentence("The text has at most 80 bytes.");
        LabelStation x = new LabelStation();
        Check.write(x, ".".repeat(79));
        Check.due("append('.'), the 80th", x.append('.'), 80);
        Check.illegalState("append('.'), the 81st", x, () -> x.append('.'));
        Check.due("carryOut()", x.carryOut(), 80);
        Check.due("clearText()", x.clearText(), 80);
    }

    private static void digitsOfTheText() {
        Check.sentence("a digit 0 to 3 feeds an item of that quality");
        for (int quality = 0; quality <= 3; quality++) {
            LabelStation x = new LabelStation();
            x.append('0' + quality);
            Check.due("carryOut()", x.carryOut(), 1);
            Check.due("the quality", x.item(0, 1), quality);
            Check.due("status(0)", x.status(0), 0);
        }
        for (int value : new int[] {'0' - 1, '3' + 1, '9'}) {
            LabelStation x = new LabelStation();
            x.append(value);
            Check.due("carryOut() of " + value, x.carryOut(), -10);
        }
    }

    private static void ticksOfTheText() {
        Check.sentence("\".\" lets one tick pass, \":\" ten ticks");
        LabelStation x = new LabelStation();
        Check.write(x, ".");
        x.carryOut();
        Check.due("status(0)", x.status(0), 1);
        Check.write(x, ":");
        x.carryOut();
        Check.due("status(0)", x.status(0), 11);
        Check.write(x, ":".repeat(80));
        x.carryOut();
        Check.due("status(0) after 80 of them", x.status(0), 811);
        for (int value = 0; value <= 127; value++) {
            LabelStation y = new LabelStation();
            y.append(value);
            boolean isCommand = value >= '0' && value <= '3' || value == '.' || value == ':';
            Check.due("carryOut() of " + value, y.carryOut(), isCommand ? 1 : -10);
        }
    }

    private static void firstSyntaxError() {
        Check.sentence("The first byte that is something else is the syntax error position.");
        LabelStation x = new LabelStation();
        for (int position = 0; position < 80; position++) {
            Check.write(x, ".".repeat(position) + "x".repeat(80 - position));
            Check.due("carryOut() with errors from " + position + " on", x.carryOut(), -10 - position);
        }
        Check.due("status(0)", x.status(0), 0);
    }

    // ---- undo

    private static void savesEvenWithoutChange() {
        Check.sentence("saves the state from before the call, even if the call changes nothing");
        LabelStation x = new LabelStation();
        Check.undoable("setPlaces() to the same", x, () -> x.setPlaces(100, 200, 260, 400, 500));
        for (int what = 0; what <= 6; what++) {
            int of = what;
            Check.undoable("set() to the same", x, () -> x.set(of, x.value(of)));
        }
        Check.undoable("jam() as before", x, () -> x.jam(false));
        Check.undoable("run(0)", x, () -> x.run(0));
        Check.undoable("carryOut() of an empty text", x, () -> x.carryOut());
        x.feed(0);
        Check.undoable("slip(0, 0)", x, () -> x.slip(0, 0));
    }

    private static void savesBeforeEachUndoableCall() {
        Check.sentence("Each successful call of a method whose description says \"undoable\" saves the state");
        LabelStation x = Check.small();
        x.set(4, 1);
        Check.undoable("setPlaces()", x, () -> x.setPlaces(1, 2, 3, 4, 5));
        Check.undoable("set()", x, () -> x.set(6, 7));
        Check.undoable("jam()", x, () -> x.jam(true));
        Check.undoable("start()", x, () -> x.start());
        Check.undoable("feed()", x, () -> x.feed(1));
        Check.undoable("run()", x, () -> x.run(1000));
        x.start();
        Check.undoable("stop()", x, () -> x.stop());
        x.feed(1);
        Check.undoable("slip()", x, () -> x.slip(0, 1));
        Check.undoable("take()", x, () -> x.take(0));
        x.run(40);
        Check.undoable("reset()", x, () -> x.reset());
        LabelStation y = new LabelStation();
        Check.write(y, "1.");
        Check.due("carryOut()", y.carryOut(), 2);
        Check.due("undo()", y.undo(), 0);
        Check.due("items", y.status(3), 0);
    }

    private static void othersSaveNothing() {
        Check.sentence("Each successful call of a method whose description says \"undoable\" (and no other)");
        LabelStation x = new LabelStation();
        x.append('0');
        x.append('0');
        x.carryOut();
        x.append('x');
        x.carryOut();
        x.clearText();
        x.fastest();
        Check.illegalState("undo() after a text and its errors", x, () -> x.undo());
        x.feed(0);
        x.fate(0);
        Check.due("undo()", x.undo(), 0);
        Check.illegalState("undo() after undo()", x, () -> x.undo());
    }

    private static void mostSavedStates() {
        Check.sentence("at most 4 states are saved, and the oldest is dropped first");
        for (int calls = 0; calls <= 12; calls++) {
            LabelStation x = new LabelStation();
            for (int call = 0; call < calls; call++) {
                x.run(1);
            }
            int saved = Math.min(4, calls);
            for (int back = 1; back <= saved; back++) {
                Check.due("undo()", x.undo(), saved - back);
                Check.due("status(0)", x.status(0), calls - back);
            }
            Check.illegalState("undo() once more", x, () -> x.undo());
        }
    }

    private static void savesAllButTheText() {
        Check.sentence("The saved state contains everything except the feed text.");
        LabelStation x = rejected(25, 30, 3);
        x.jam(true);
        x.jam(false);
        x.feed(2);
        Check.write(x, "::.");
        x.run(21);
        Check.due("on their way", x.status(5) * 100 + x.status(6) * 10 + x.status(7), 111);
        long whole = x.digest();
        x.run(3);
        Check.write(x, ":..");
        Check.due("undo(), instead of four saved states three", x.undo(), 3);
        Check.due("the digest", x.digest(), whole - 1);
        Check.due("carryOut() of the text that was written later", x.carryOut(), 3);
        Check.due("status(0)", x.status(0), 73);
        Check.due("the item came to the bin", x.counter(6), 1);
        Check.due("record 1 made its way", x.record(1, 0), 33);
        Check.due("and has the verdict of the second camera", x.record(1, 1), 1);
        LabelStation y = Check.small();
        y.start();
        y.feed(1);
        y.run(39);
        y.run(1);
        Check.due("a reject, and an item for the bin", y.value(12) * 10 + y.status(7), 11);
        y.undo();
        Check.due("neither", y.value(12) * 10 + y.status(7), 0);
        Check.due("reconcile(true)", y.reconcile(true), 0);
        Check.due("reconcile(false)", y.reconcile(false), 0);
        y.undo();
        y.undo();
        Check.due("the next number, too", y.feed(3), 0);
    }
}
