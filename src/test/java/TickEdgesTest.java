/** The sentences of the document about ticks and counters that name a boundary, a test each. */
public final class TickEdgesTest {
    public static void main(String[] args) {
        presentTick();
        verdictsDueAtThisTick();
        lateAfterReject();
        passAndFail();
        notReadOfEachCamera();
        secondVerdictReplacesNotRead();
        arrivalsAtThisTick();
        arrivalsInOrder();
        oldestExpectation();
        arrivalWithoutExpectation();
        lastTickBeforeThePresent();
        arrivalsBeforeClosing();
        pulsesOfStandingBelt();
        asManyPulsesAsTheSpeed();
        recordsInAscendingOrder();
        eachRecordOfAPulse();
        recordsBeforeItems();
        atTheExitPlusTolerancePlusOne();
        beyondIt();
        asPassedOrMissing();
        atTheExit();
        matchedWithPassedRecord();
        notMatchedYet();
        matchedWithinTheTolerance();
        nearestToTheExit();
        equallyNearToTheExit();
        escaped();
        everythingOfThisPulse();
        labelsAndNotJammed();
        lastLabel();
        wastedLabel();
        secondLabel();
        firstCameraAlways();
        secondCameraOnlyWithThree();
        noItemOrNoLabel();
        resultsByQuality();
        dueAfterTheDelay();
        passesWithOneAndWithoutFault();
        rejectsBecomeZero();
        divertedIfThereIsOne();
        lastTickOfExpectation();
        atLeastTheLimit();
        firstCauseThatApplies();
        counters();
        Check.end("TickEdgesTest");
    }

    /** A small station whose belt runs, with an item of this quality. */
    private static LabelStation smallWith(int quality) {
        LabelStation x = Check.small();
        x.start();
        x.feed(quality);
        return x;
    }

    /** A station with places 10, 20, 25, 60 and 200, a pulse a tick, and the camera delay 1, whose belt runs. */
    private static LabelStation longWayToExit() {
        LabelStation x = new LabelStation();
        x.setPlaces(10, 20, 25, 60, 200);
        x.set(0, 1);
        x.set(1, 1);
        x.start();
        return x;
    }

    // ---- step 1 and 2

    private static void presentTick() {
        Check.sentence("The present tick increases by 1.");
        LabelStation x = Check.small();
        Check.due("initially", x.status(0), 0);
        Check.due("run(1) on a standing belt", x.run(1), 1);
        x.set(4, 1);
        x.start();
        x.feed(1);
        Check.due("run(39) on a running belt", x.run(39), 40);
        Check.due("run(1) with an alarm in it", x.run(1), 41);
        Check.due("run(1) with an alarm", x.run(1), 42);
        Check.due("alarm", x.status(2), 1);
    }

    private static void verdictsDueAtThisTick() {
        Check.sentence("The verdicts that are due at this tick are delivered");
        LabelStation x = smallWith(0);
        x.set(1, 5);
        x.run(24);
        Check.due("a tick before", x.record(0, 1) * 10 + x.status(5), 1);
        x.run(1);
        Check.due("at the tick", x.record(0, 1) * 10 + x.status(5), 10);

        LabelStation y = smallWith(0);
        y.set(1, 20);
        y.run(39);
        Check.due("before the tick of the gate", y.record(0, 1), 0);
        y.run(1);
        Check.due("delivered before the pulses of this tick", y.record(0, 3), 1);
    }

    private static void lateAfterReject() {
        Check.sentence("If the record is not in the register any more .. the verdict is late: it is only counted.");
        LabelStation x = smallWith(0);
        x.set(1, 21);
        x.run(40);
        Check.due("rejected without a verdict", x.counter(13) * 10 + x.counter(4), 10);
        x.run(1);
        Check.due("late", x.counter(4), 1);
        Check.due("rejects", x.counter(2), 1);
        Check.due("records", x.status(4), 0);
        Check.due("verdicts", x.status(5), 0);
        LabelStation y = smallWith(0);
        y.set(1, 20);
        y.run(41);
        Check.due("a tick earlier it is in time", y.counter(4) * 10 + y.record(0, 3), 1);
        LabelStation z = smallWith(0);
        z.set(1, 60);
        z.set(3, 100);
        z.run(30);
        z.feed(0);
        z.run(50);
        Check.due("the first of two late ones", z.counter(4) * 10 + z.status(5), 11);
        z.run(29);
        Check.due("before the second one", z.counter(4) * 10 + z.status(5), 11);
        z.run(1);
        Check.due("the second one", z.counter(4) * 10 + z.status(5), 20);
    }

    private static void passAndFail() {
        Check.sentence("A pass or a fail becomes the verdict of the record.");
        LabelStation x = smallWith(0);
        x.run(22);
        Check.due("pass", x.record(0, 1), 1);
        LabelStation y = smallWith(1);
        y.run(22);
        Check.due("fail", y.record(0, 1), 2);
    }

    private static void notReadOfEachCamera() {
        Check.sentence("A result \"not read\" of the first camera becomes the verdict 3 ..; of the second camera it "
                + "becomes the verdict 2.");
        LabelStation x = smallWith(3);
        x.run(22);
        Check.due("of the first camera", x.record(0, 1), 3);
        x.run(9);
        Check.due("before that of the second one", x.record(0, 1), 3);
        x.run(1);
        Check.due("of the second camera", x.record(0, 1), 2);
    }

    private static void secondVerdictReplacesNotRead() {
        Check.sentence("one of the second camera does not change a verdict 1 or 2 (but a 3)");
        LabelStation x = smallWith(2);
        x.run(31);
        Check.due("before", x.record(0, 1), 3);
        x.run(1);
        Check.due("a pass", x.record(0, 1), 1);
        LabelStation y = smallWith(2);
        y.run(29);
        y.take(0);
        y.run(3);
        Check.due("a fail", y.record(0, 1), 2);
    }

    // ---- step 3

    private static void arrivalsAtThisTick() {
        Check.sentence("The items that are due in the bin at this tick arrive there");
        LabelStation x = smallWith(1);
        x.run(43);
        Check.due("a tick before", x.status(7) * 10 + x.counter(6), 10);
        x.run(1);
        Check.due("at the tick", x.status(7) * 10 + x.counter(6), 1);
        LabelStation y = smallWith(1);
        y.set(2, 40);
        y.set(3, 100);
        y.run(30);
        y.feed(1);
        y.run(50);
        Check.due("the first of two", y.status(7) * 10 + y.counter(6), 11);
        y.run(29);
        Check.due("before the second one", y.status(7) * 10 + y.counter(6), 11);
        y.run(1);
        Check.due("the second one", y.status(7) * 10 + y.counter(6), 2);
        Check.due("alarm", y.status(2), 0);
    }

    /** Two rejects, at 40 and 70, whose items come to the bin at the same tick, 80. */
    private static LabelStation twoArrivals() {
        LabelStation x = smallWith(1);
        x.set(2, 40);
        x.set(3, 100);
        x.run(30);
        x.feed(1);
        x.run(30);
        x.set(2, 10);
        x.run(19);
        return x;
    }

    private static void arrivalsInOrder() {
        Check.sentence("in the order in which they were diverted: each one confirms");
        LabelStation x = twoArrivals();
        Check.due("at 79", x.status(7) * 100 + x.status(6) * 10 + x.counter(6), 220);
        x.run(1);
        Check.due("at 80", x.status(7) * 100 + x.status(6) * 10 + x.counter(6), 2);
        Check.due("alarms", x.status(2), 0);
        LabelStation y = smallWith(1);
        y.set(2, 50);
        y.set(3, 100);
        y.run(30);
        y.feed(1);
        y.run(30);
        y.set(2, 1);
        y.run(11);
        Check.due("the one that was diverted later arrives at 71", y.status(7) * 10 + y.counter(6), 11);
        y.run(18);
        Check.due("the other one not before 90", y.counter(6), 1);
        y.run(1);
        Check.due("but then", y.counter(6), 2);
    }

    private static void oldestExpectation() {
        Check.sentence("the oldest open expectation, which is closed by this");
        LabelStation x = smallWith(1);
        x.set(2, 35);
        x.set(3, 60);
        x.run(30);
        x.feed(1);
        x.run(29);
        x.take(1);
        x.set(3, 20);
        x.run(15);
        Check.due("at 74: one until 100, one until 90", x.status(6) * 10 + x.counter(6), 20);
        x.run(1);
        Check.due("at 75 one is closed", x.status(6) * 10 + x.counter(6), 11);
        x.run(15);
        Check.due("at 90", x.counter(15), 0);
        x.run(1);
        Check.due("at 91 the newer one is overdue", x.counter(15) * 10 + x.status(6), 10);
    }

    private static void arrivalWithoutExpectation() {
        Check.sentence("without an open expectation the alarm 3 occurs");
        LabelStation x = smallWith(1);
        x.set(2, 12);
        x.set(3, 10);
        x.run(51);
        Check.due("the expectation is overdue", x.reset(), 2);
        x.run(1);
        Check.due("alarm", x.status(2), 3);
        Check.due("alarms 3 and confirmed rejects", x.counter(16) * 10 + x.counter(6), 10);
        Check.due("on the way to the bin", x.status(7), 0);

        LabelStation y = smallWith(1);
        y.set(2, 40);
        y.set(3, 100);
        y.run(30);
        y.feed(1);
        y.run(30);
        y.set(2, 10);
        y.set(3, 1);
        y.run(12);
        Check.due("one expectation was overdue at 72", y.reset() * 10 + y.status(6), 21);
        y.run(8);
        Check.due("at 80, one confirms, one is not expected", y.counter(6) * 10 + y.counter(16), 11);
        Check.due("alarm", y.status(2), 3);
    }

    private static void lastTickBeforeThePresent() {
        Check.sentence("Then all open expectations whose last tick is before the present tick are closed, and for "
                + "each of them the alarm 2 occurs.");
        LabelStation x = smallWith(1);
        x.set(2, 50);
        x.set(3, 45);
        x.run(30);
        x.feed(1);
        x.run(30);
        x.set(3, 15);
        x.run(25);
        Check.due("at 85, the last tick of two", x.status(6) * 10 + x.counter(15), 20);
        x.run(1);
        Check.due("at 86", x.status(6) * 10 + x.counter(15), 2);
        Check.due("alarm", x.status(2), 2);

        LabelStation y = smallWith(1);
        y.set(2, 50);
        y.set(3, 35);
        y.run(30);
        y.feed(1);
        y.run(45);
        Check.due("at 75, the last tick of the first one", y.status(6) * 10 + y.counter(15), 20);
        y.run(1);
        Check.due("at 76, only the first one is overdue", y.status(6) * 10 + y.counter(15), 11);
    }

    private static void arrivalsBeforeClosing() {
        Check.sentence("3. The items .. arrive there .. Then all open expectations .. are closed");
        LabelStation x = smallWith(1);
        x.set(2, 11);
        x.set(3, 10);
        x.run(51);
        Check.due("an arrival at the tick after the last one", x.counter(6) * 10 + x.status(2), 10);
        LabelStation y = smallWith(1);
        y.set(2, 12);
        y.set(3, 10);
        y.run(52);
        Check.due("a tick later", y.counter(6) * 10 + y.status(2), 2);
    }

    // ---- step 4: pulses and records

    private static void pulsesOfStandingBelt() {
        Check.sentence("If the belt is running, it makes as many pulses as the speed. (otherwise none)");
        LabelStation x = smallWith(1);
        x.run(21);
        x.stop();
        x.run(1);
        Check.due("position", x.item(0, 0) * 1000 + x.record(0, 0), 21021);
        Check.due("but verdicts come", x.record(0, 1), 2);
        x.start();
        x.run(19);
        x.stop();
        x.run(4);
        Check.due("and arrivals", x.counter(6), 1);
        LabelStation y = smallWith(1);
        y.run(39);
        y.take(0);
        y.run(1);
        y.stop();
        y.run(11);
        Check.due("and alarms", y.status(2), 2);
    }

    private static void asManyPulsesAsTheSpeed() {
        Check.sentence("it makes as many pulses as the speed. A pulse: the positions of all items and of all "
                + "records increase by 1.");
        for (int speed = 1; speed <= 10; speed++) {
            LabelStation x = new LabelStation();
            x.feed(0);
            x.start();
            x.run(6);
            x.feed(0);
            x.set(0, speed);
            x.run(3);
            Check.due("items", x.item(0, 0) * 1000 + x.item(1, 0), (30 + 3 * speed) * 1000 + 3 * speed);
            Check.due("records", x.record(0, 0) * 1000 + x.record(1, 0), (30 + 3 * speed) * 1000 + 3 * speed);
        }
    }

    private static void recordsInAscendingOrder() {
        Check.sentence("for the records in the register, in ascending order of their numbers");
        LabelStation x = new LabelStation();
        x.setPlaces(10, 20, 25, 40, 100);
        x.set(0, 1);
        x.set(1, 1);
        x.set(5, 20);
        x.start();
        x.feed(1);
        x.run(30);
        x.feed(1);
        x.run(9);
        x.take(1);
        x.slip(0, -15);
        x.run(1);
        Check.due("the gate diverts the item first", x.status(7), 1);
        Check.due("so that the labeler finds none", x.counter(5), 1);
    }

    private static void eachRecordOfAPulse() {
        Check.sentence("for the records in the register (each of them, also behind one that leaves)");
        LabelStation x = smallWith(0);
        x.set(5, 9);
        x.run(30);
        x.feed(2);
        x.run(29);
        Check.due("before", x.status(4) * 100 + x.counter(1) * 10 + x.status(5), 200);
        x.run(1);
        Check.due("0 leaves, the second camera acts on 1", x.status(4) * 100 + x.counter(1) * 10 + x.status(5), 111);
        LabelStation y = smallWith(1);
        y.run(30);
        y.feed(0);
        y.run(10);
        Check.due("0 is rejected, the labeler acts on 1", y.counter(2) * 10 + y.item(1, 2), 11);
        LabelStation z = smallWith(0);
        z.set(5, 9);
        z.run(50);
        z.feed(0);
        z.jam(true);
        z.run(10);
        Check.due("0 leaves, 1 gets a label fault", z.counter(1) * 10 + z.record(1, 2), 11);
    }

    private static void recordsBeforeItems() {
        Check.sentence("Then, for the records ..: .. Then, for the items ..");
        LabelStation x = smallWith(0);
        x.run(45);
        x.slip(0, -1);
        x.run(6);
        Check.due("at one pulse, the record leaves before the item could be matched", x.counter(3), 1);
        Check.due("so that it has escaped", x.counter(9), 1);

        LabelStation y = new LabelStation();
        y.setPlaces(10, 20, 25, 60, 70);
        y.set(0, 1);
        y.set(1, 1);
        y.start();
        y.feed(0);
        y.run(59);
        y.slip(0, 10);
        y.run(1);
        Check.due("at one pulse, the record is passed before the item is matched", y.record(0, 4), 1);
        Check.due("so that it has not escaped", y.counter(9), 0);
    }

    private static void atTheExitPlusTolerancePlusOne() {
        Check.sentence("at the position of the exit plus the tolerance plus 1 .. the record leaves the register");
        for (int tolerance : new int[] {0, 1, 10, 20}) {
            LabelStation x = smallWith(0);
            x.run(42);
            x.take(0);
            x.set(5, tolerance);
            x.run(8 + tolerance);
            Check.due("at the exit plus the tolerance", x.status(4) * 10 + x.counter(3), 10);
            x.run(1);
            Check.due("and plus 1", x.status(4) * 10 + x.counter(3), 1);
        }
    }

    private static void beyondIt() {
        Check.sentence("or beyond it, the record leaves the register");
        LabelStation x = smallWith(0);
        x.run(40);
        x.set(5, 20);
        x.run(25);
        x.set(5, 5);
        x.run(0);
        Check.due("only at a pulse", x.status(4), 1);
        x.stop();
        x.run(3);
        Check.due("of a running belt", x.status(4), 1);
        x.start();
        x.run(1);
        Check.due("beyond it", x.status(4) * 10 + x.counter(1), 1);
    }

    private static void asPassedOrMissing() {
        Check.sentence("(as passed if an item has been matched with it, otherwise as missing)");
        LabelStation x = smallWith(0);
        x.run(51);
        Check.due("matched", x.counter(1) * 10 + x.counter(3), 10);
        LabelStation y = smallWith(0);
        y.run(49);
        y.take(0);
        y.run(2);
        Check.due("passed, but not matched", y.counter(1) * 10 + y.counter(3), 1);
    }

    // ---- step 4: items

    private static void atTheExit() {
        Check.sentence("an item at the position of the exit leaves the belt");
        LabelStation x = smallWith(0);
        x.run(49);
        Check.due("one before", x.item(0, 0) * 10 + x.counter(8), 490);
        x.run(1);
        Check.due("at the exit", x.status(3) * 10 + x.counter(8), 1);
        LabelStation y = smallWith(0);
        Check.move(y, 0, 49);
        Check.due("slipped to one before", y.counter(8), 0);
        y.run(1);
        Check.due("and a pulse", y.status(3) * 10 + y.counter(8), 1);
        LabelStation z = new LabelStation();
        z.set(0, 1);
        z.start();
        for (int number = 0; number < 4; number++) {
            z.feed(0);
            z.run(30);
        }
        Check.move(z, 0, 498);
        Check.move(z, 1, 499);
        Check.move(z, 2, 497);
        Check.move(z, 3, 499);
        z.run(1);
        Check.due("each one that is there, whatever its number", z.counter(8), 2);
        Check.due("the others stay", z.numberAt(0, false) * 10 + z.numberAt(1, false), 2);
    }

    private static void matchedWithPassedRecord() {
        Check.sentence("it is matched with the passed record");
        LabelStation x = new LabelStation();
        x.setPlaces(10, 20, 25, 60, 70);
        x.set(0, 1);
        x.set(1, 1);
        x.start();
        x.feed(0);
        x.run(55);
        x.slip(0, 11);
        Check.due("record before the gate", x.record(0, 0), 55);
        x.set(5, 20);
        x.run(4);
        Check.due("a record near the exit that is not passed", x.counter(9) * 10 + x.record(0, 4), 10);
        LabelStation y = new LabelStation();
        y.setPlaces(10, 20, 25, 60, 70);
        y.set(0, 1);
        y.set(1, 1);
        y.start();
        y.feed(0);
        y.run(60);
        y.slip(0, 9);
        y.run(1);
        Check.due("a record that is passed", y.counter(9) * 10 + y.record(0, 4), 1);
    }

    private static void notMatchedYet() {
        Check.sentence("that has not been matched yet");
        LabelStation x = longWayToExit();
        x.set(5, 20);
        x.feed(0);
        x.run(30);
        x.feed(0);
        x.run(169);
        x.run(1);
        Check.due("record 0 at the exit", x.record(0, 4) * 10 + x.record(1, 4), 10);
        Check.move(x, 1, 199);
        x.run(1);
        Check.due("it is not matched again, and record 1 is 29 away", x.record(1, 4) * 10 + x.counter(9), 1);
        LabelStation y = longWayToExit();
        y.set(5, 20);
        y.feed(0);
        y.run(30);
        y.feed(0);
        y.run(70);
        Check.move(y, 0, y.item(1, 0) - 1);
        y.run(130);
        Check.due("record 0 has left, item 1 is matched", y.counter(3) * 10 + y.record(1, 4), 11);
        y.run(1);
        Check.due("record 1 is not matched again", y.counter(8) * 10 + y.counter(9), 21);
    }

    /** Item 1 comes to the exit when record 0 is here: 1 if matched with record 0, 2 with record 1, 4 if escaped. */
    private static int matched(int position0, int tolerance) {
        LabelStation x = longWayToExit();
        x.feed(0);
        x.run(30);
        x.feed(0);
        x.run(100);
        x.set(5, tolerance);
        x.take(0);
        x.run(position0 - 1 - x.record(0, 0));
        Check.move(x, 1, 199);
        x.run(1);
        int ofRecord0 = position0 > 200 + tolerance ? 0 : x.record(0, 4);
        return ofRecord0 + 2 * x.record(1, 4) + 4 * x.counter(9);
    }

    private static void matchedWithinTheTolerance() {
        Check.sentence("whose position is nearest to the exit, within the tolerance");
        for (int tolerance : new int[] {0, 1, 10, 14}) {
            Check.due("the tolerance before", matched(200 - tolerance, tolerance), 1);
            Check.due("the tolerance behind", matched(200 + tolerance, tolerance), 1);
            Check.due("one more before", matched(200 - tolerance - 1, tolerance), 4);
            Check.due("one more behind", matched(200 + tolerance + 1, tolerance), 4);
        }
        Check.due("20 before", matched(180, 20), 1);
        Check.due("21 before", matched(179, 20), 4);
    }

    private static void nearestToTheExit() {
        Check.sentence("whose position is nearest to the exit");
        Check.due("14 behind, the other 16 before", matched(214, 20), 1);
        Check.due("16 behind, the other 14 before", matched(216, 20), 2);
        Check.due("20 behind, the other 10 before", matched(220, 20), 2);
        Check.due("10 behind, the other 20 before", matched(210, 20), 1);
    }

    private static void equallyNearToTheExit() {
        Check.sentence("(of two equally near ones the one with the lower number)");
        Check.due("15 behind, the other 15 before", matched(215, 20), 1);
        Check.due("15 behind, the other 15 before, tolerance 15", matched(215, 15), 1);
    }

    private static void escaped() {
        Check.sentence("without such a record it has escaped, and the alarm 4 occurs");
        LabelStation x = smallWith(1);
        Check.move(x, 0, 49);
        x.run(1);
        Check.due("escaped", x.counter(9), 1);
        Check.due("left at the exit", x.counter(8), 1);
        Check.due("alarm", x.status(2) * 10 + x.counter(17), 41);
        LabelStation y = smallWith(0);
        y.run(50);
        Check.due("not escaped", y.counter(9) * 10 + y.status(2), 0);
    }

    private static void everythingOfThisPulse() {
        Check.sentence("An alarm at a pulse ends the pulses of this tick only after everything of this pulse has "
                + "been done.");
        LabelStation x = new LabelStation();
        x.setPlaces(10, 20, 25, 40, 70);
        x.set(0, 10);
        x.set(1, 1);
        x.set(4, 1);
        x.start();
        x.feed(0);
        x.run(3);
        x.feed(1);
        x.run(4);
        Check.due("record 1 is rejected at 40", x.status(2), 1);
        Check.due("item 0 leaves at 70, at the same pulse", x.counter(8) * 10 + x.record(0, 4), 11);

        LabelStation y = smallWith(1);
        y.set(4, 1);
        y.run(30);
        y.feed(0);
        y.run(10);
        Check.due("record 0 is rejected at 40", y.status(2), 1);
        Check.due("record 1 gets its label at 10, at the same pulse", y.item(1, 2), 1);
        Check.due("and its item was moved", y.item(1, 0), 10);

        LabelStation z = new LabelStation();
        z.setPlaces(10, 20, 25, 40, 70);
        z.set(0, 10);
        z.set(1, 1);
        z.set(4, 1);
        z.start();
        z.feed(1);
        z.run(3);
        z.slip(0, 30);
        z.run(1);
        Check.due("alarm 1 at the pulse of alarm 4", z.status(2) * 100 + z.counter(14) * 10 + z.counter(17), 111);
    }

    // ---- labeler

    private static int labelAndFault(LabelStation x) {
        x.run(10);
        return x.item(0, 2) * 10 + x.record(0, 2);
    }

    private static void labelsAndNotJammed() {
        Check.sentence("if there are labels and it is not jammed .. Otherwise the record gets a label fault.");
        LabelStation x = smallWith(0);
        x.set(6, 1);
        Check.due("1 label", labelAndFault(x), 10);
        LabelStation y = smallWith(0);
        y.set(6, 0);
        Check.due("no label", labelAndFault(y), 1);
        LabelStation z = smallWith(0);
        z.jam(true);
        Check.due("jammed", labelAndFault(z), 1);
        Check.due("labels of a jammed labeler", z.value(6), 50);
        LabelStation w = smallWith(0);
        w.jam(true);
        w.set(6, 0);
        Check.due("jammed, and no label", labelAndFault(w), 1);
        Check.due("labels", w.value(6), 0);
        Check.due("wasted", x.counter(5) + y.counter(5) + z.counter(5) + w.counter(5), 0);
    }

    private static void lastLabel() {
        Check.sentence("the number of labels decreases by 1");
        for (int labels : new int[] {1, 2, 1000}) {
            LabelStation x = smallWith(0);
            x.set(6, labels);
            x.run(9);
            Check.due("before", x.value(6), labels);
            x.run(1);
            Check.due("at the labeler", x.value(6), labels - 1);
            x.run(10);
            Check.due("behind it", x.value(6), labels - 1);
        }
    }

    private static void wastedLabel() {
        Check.sentence("(if there is none, the label is wasted)");
        LabelStation x = smallWith(0);
        x.take(0);
        x.run(10);
        Check.due("wasted", x.counter(5), 1);
        Check.due("labels", x.value(6), 49);
        Check.due("no label fault", x.record(0, 2), 0);
    }

    private static void secondLabel() {
        Check.sentence("the item at the labeler gets its label (an item that has one keeps it)");
        LabelStation x = smallWith(0);
        x.run(30);
        x.feed(0);
        x.run(9);
        x.take(1);
        Check.move(x, 0, 9);
        x.run(1);
        Check.due("label", x.item(0, 2), 1);
        Check.due("labels", x.value(6), 48);
        Check.due("wasted", x.counter(5), 0);
    }

    // ---- cameras

    private static void firstCameraAlways() {
        Check.sentence("A camera acts on a record: the first one always");
        LabelStation x = smallWith(0);
        x.jam(true);
        x.run(20);
        Check.due("on a record with a label fault", x.status(5), 1);
        LabelStation y = smallWith(0);
        y.take(0);
        y.run(19);
        Check.due("before", y.status(5), 0);
        y.run(1);
        Check.due("without an item", y.status(5), 1);
    }

    private static void secondCameraOnlyWithThree() {
        Check.sentence("the second one only if the record has the verdict 3 then");
        int[] acts = {0, 0, 1, 1};
        for (int quality = 0; quality <= 3; quality++) {
            LabelStation x = smallWith(quality);
            x.run(30);
            Check.due("verdict of quality " + quality, x.record(0, 1), acts[quality] == 1 ? 3 : quality + 1);
            Check.due("the second camera", x.status(5), acts[quality]);
        }
        LabelStation y = smallWith(3);
        y.set(1, 10);
        y.run(30);
        Check.due("verdict 3 from this tick on", y.status(5), 1);
        LabelStation z = smallWith(3);
        z.set(1, 11);
        z.run(30);
        Check.due("the verdict of the first camera is not there yet", z.record(0, 1) * 10 + z.status(5), 1);
        z.run(1);
        Check.due("it comes a tick later, and no other one is taken", z.record(0, 1) * 10 + z.status(5), 30);
    }

    private static void noItemOrNoLabel() {
        Check.sentence("no item, or an item without a label: fail");
        for (int quality = 0; quality <= 3; quality++) {
            LabelStation x = smallWith(quality);
            x.jam(true);
            x.run(22);
            Check.due("without a label, quality " + quality, x.record(0, 1), 2);
            LabelStation y = smallWith(quality);
            y.run(19);
            y.take(0);
            y.run(3);
            Check.due("no item, quality " + quality, y.record(0, 1), 2);
        }
        LabelStation z = smallWith(2);
        z.run(29);
        z.take(0);
        z.run(3);
        Check.due("no item at the second camera", z.record(0, 1), 2);
        LabelStation w = smallWith(2);
        w.run(29);
        w.slip(0, 1);
        w.run(3);
        Check.due("an item one away from the second camera, tolerance 0", w.record(0, 1), 2);
    }

    private static void resultsByQuality() {
        Check.sentence("quality 0: pass; quality 1: fail; quality 2: not read by the first camera, pass by the second "
                + "one; quality 3: not read");
        int[] first = {1, 2, 3, 3};
        int[] second = {1, 2, 1, 2};
        for (int quality = 0; quality <= 3; quality++) {
            LabelStation x = smallWith(quality);
            x.run(22);
            Check.due("the first camera, quality " + quality, x.record(0, 1), first[quality]);
            x.run(10);
            Check.due("the second camera, quality " + quality, x.record(0, 1), second[quality]);
        }
        // Item 1 is seen by the second camera for record 0, which has the verdict 3.
        for (int quality = 0; quality <= 3; quality++) {
            LabelStation y = longWayToSecond();
            y.feed(2);
            y.run(30);
            y.feed(quality);
            y.run(69);
            y.take(0);
            Check.move(y, 1, 99);
            y.run(2);
            Check.due("another item, quality " + quality, y.record(0, 1), second[quality]);
        }
    }

    /** A station with places 10, 20, 100, 200 and 300, a pulse a tick, the camera delay 1, and the tolerance 0. */
    private static LabelStation longWayToSecond() {
        LabelStation x = new LabelStation();
        x.setPlaces(10, 20, 100, 200, 300);
        x.set(0, 1);
        x.set(1, 1);
        x.set(5, 0);
        x.start();
        return x;
    }

    private static void dueAfterTheDelay() {
        Check.sentence("The verdict is due at the present tick plus the camera delay.");
        LabelStation x = smallWith(0);
        x.set(1, 7);
        x.run(20);
        x.set(1, 1);
        x.run(6);
        Check.due("a later delay does not change it", x.record(0, 1), 0);
        x.run(1);
        Check.due("due", x.record(0, 1), 1);
        LabelStation y = new LabelStation();
        y.setPlaces(10, 21, 30, 60, 70);
        y.set(0, 10);
        y.set(1, 2);
        y.start();
        y.feed(0);
        y.run(4);
        Check.due("taken at the first pulse of tick 3", y.record(0, 1), 0);
        y.run(1);
        Check.due("delivered at tick 5", y.record(0, 1), 1);
        LabelStation z = new LabelStation();
        z.setPlaces(10, 30, 31, 60, 70);
        z.set(0, 10);
        z.set(1, 2);
        z.start();
        z.feed(0);
        z.run(4);
        Check.due("taken at the last pulse of tick 3", z.record(0, 1), 0);
        z.run(1);
        Check.due("delivered at tick 5", z.record(0, 1), 1);
    }

    // ---- gate

    private static void passesWithOneAndWithoutFault() {
        Check.sentence("if its verdict is 1, and it has no label fault, it is passed");
        LabelStation x = smallWith(0);
        x.run(39);
        Check.due("one before", x.record(0, 3), 0);
        x.run(1);
        Check.due("verdict 1", x.record(0, 3), 1);
        LabelStation y = smallWith(1);
        y.run(40);
        Check.due("verdict 2", y.counter(2), 1);
        LabelStation z = smallWith(3);
        z.set(1, 11);
        z.run(40);
        Check.due("verdict 3", z.counter(12), 1);
        LabelStation w = smallWith(0);
        w.set(1, 100);
        w.run(40);
        Check.due("verdict 0", w.counter(13), 1);
        LabelStation v = passWithFault();
        Check.due("verdict 1, and a label fault", v.record(1, 1) * 10 + v.record(1, 2), 11);
        v.run(1);
        Check.due("rejected", v.counter(2) * 10 + v.counter(10), 11);
    }

    /** Record 1 has a label fault, but the camera saw the labeled item 0 for it; it stands before the gate. */
    private static LabelStation passWithFault() {
        LabelStation x = smallWith(0);
        x.run(30);
        x.feed(0);
        x.jam(true);
        x.run(19);
        x.take(1);
        Check.move(x, 0, 19);
        x.run(20);
        return x;
    }

    private static void rejectsBecomeZero() {
        Check.sentence("and the number of consecutive rejects becomes 0");
        LabelStation x = smallWith(1);
        x.run(40);
        x.feed(1);
        x.run(40);
        Check.due("after two rejects", x.value(12), 2);
        x.feed(0);
        x.run(39);
        Check.due("before the gate", x.value(12), 2);
        x.run(1);
        Check.due("passed", x.value(12), 0);
    }

    private static void divertedIfThereIsOne() {
        Check.sentence("the item at the gate, if there is one, is diverted: it leaves the belt, and is due in the bin "
                + "at the present tick plus the bin delay");
        LabelStation x = smallWith(1);
        x.set(2, 7);
        x.run(40);
        Check.due("on its way", x.status(3) * 10 + x.status(7), 1);
        x.set(2, 1);
        x.run(6);
        Check.due("a later delay does not change it", x.status(7), 1);
        x.run(1);
        Check.due("in the bin", x.status(7) * 10 + x.counter(6), 1);
        LabelStation y = smallWith(1);
        y.run(39);
        y.slip(0, 1);
        y.run(1);
        Check.due("none at the gate", y.status(3) * 10 + y.status(7), 10);
        Check.due("the record is rejected all the same", y.counter(2) * 10 + y.status(4), 10);
    }

    private static void lastTickOfExpectation() {
        Check.sentence("in any case an expectation is opened, whose last tick is the present tick plus the "
                + "confirmation time");
        LabelStation x = smallWith(1);
        x.run(39);
        x.take(0);
        x.set(3, 6);
        x.run(1);
        Check.due("without an item", x.status(6), 1);
        x.set(3, 1);
        x.run(6);
        Check.due("open at its last tick", x.status(6) * 10 + x.status(2), 10);
        x.run(1);
        Check.due("closed behind it", x.status(6) * 10 + x.status(2), 2);
        LabelStation y = smallWith(1);
        y.run(40);
        Check.due("with an item", y.status(6), 1);
    }

    private static void atLeastTheLimit() {
        Check.sentence("if it is at least the limit then, the alarm 1 occurs, and the number becomes 0");
        LabelStation x = smallWith(1);
        x.set(4, 3);
        for (int rejects = 1; rejects <= 3; rejects++) {
            x.run(40);
            Check.due("rejects", x.value(12), rejects % 3);
            Check.due("alarm", x.status(2), rejects / 3);
            if (rejects < 3) {
                x.feed(1);
            }
        }
        LabelStation y = smallWith(1);
        y.run(40);
        y.feed(1);
        y.run(40);
        y.set(4, 1);
        Check.due("above a limit that was cut down: nothing by itself", y.value(12) * 10 + y.status(2), 20);
        y.feed(1);
        y.run(40);
        Check.due("at the next reject", y.value(12) * 10 + y.status(2), 1);
        y.reset();
        y.set(4, 2);
        y.start();
        y.feed(1);
        y.run(40);
        Check.due("counted from 0 again", y.value(12) * 10 + y.status(2), 10);
    }

    /** The cause of the one reject there was. */
    private static int cause(LabelStation x) {
        for (int cause = 0; cause <= 3; cause++) {
            if (x.counter(10 + cause) == 1) {
                return cause;
            }
        }
        return -1;
    }

    private static void firstCauseThatApplies() {
        Check.sentence("The cause of a reject is the first of these that applies: 0 label fault, 1 fail, 2 not read, "
                + "3 no verdict.");
        LabelStation x = smallWith(0);
        x.jam(true);
        x.run(40);
        Check.due("label fault, and fail", cause(x), 0);
        LabelStation y = smallWith(0);
        y.jam(true);
        y.set(1, 100);
        y.run(40);
        Check.due("label fault, and no verdict", cause(y), 0);
        LabelStation z = passWithFault();
        z.run(1);
        Check.due("label fault, and pass", cause(z), 0);
        LabelStation w = smallWith(0);
        w.run(30);
        w.feed(0);
        w.jam(true);
        w.run(10);
        w.take(1);
        w.run(30);
        Check.due("label fault, and no item", cause(w), 0);
        LabelStation v = smallWith(1);
        v.run(40);
        Check.due("fail", cause(v), 1);
        LabelStation u = smallWith(3);
        u.set(1, 11);
        u.run(40);
        Check.due("not read", cause(u), 2);
        LabelStation t = smallWith(0);
        t.set(1, 21);
        t.run(40);
        Check.due("no verdict", cause(t), 3);
        LabelStation s = notReadWithFault();
        s.run(1);
        Check.due("label fault, and not read", s.counter(10) * 10 + s.counter(12), 10);
    }

    /** Record 1 has a label fault, and the first camera could not read the labeled item 0 for it. */
    private static LabelStation notReadWithFault() {
        LabelStation x = smallWith(3);
        x.set(3, 100);
        x.run(30);
        x.feed(0);
        x.jam(true);
        x.run(9);
        x.slip(0, -10);
        x.run(10);
        x.take(1);
        Check.move(x, 0, 19);
        x.set(1, 11);
        x.run(20);
        Check.due("verdict 3, and a label fault", x.record(1, 1) * 10 + x.record(1, 2), 31);
        return x;
    }

    // ---- counters

    private static void onlyCounted(String told, LabelStation x, int... due) {
        for (int what = 0; what <= 17; what++) {
            int want = 0;
            for (int of : due) {
                want += of == what ? 1 : 0;
            }
            Check.due(told + ", counter(" + what + ")", x.counter(what), want);
        }
    }

    private static void counters() {
        Check.sentence("Counters. 0 items fed; 1 records that left as passed; .. 14 to 17 alarms 1 to 4");
        LabelStation x = smallWith(0);
        onlyCounted("fed", x, 0);
        x.run(50);
        onlyCounted("left at the exit", x, 0, 8);
        x.run(1);
        onlyCounted("left as passed", x, 0, 8, 1);

        LabelStation y = smallWith(1);
        y.run(40);
        onlyCounted("a fail", y, 0, 2, 11);
        y.run(4);
        onlyCounted("confirmed", y, 0, 2, 11, 6);

        LabelStation z = smallWith(0);
        z.take(0);
        onlyCounted("taken", z, 0, 7);
        z.run(10);
        onlyCounted("wasted", z, 0, 7, 5);
        z.run(30);
        onlyCounted("a fail without an item", z, 0, 7, 5, 2, 11);
        z.run(11);
        onlyCounted("alarm 2", z, 0, 7, 5, 2, 11, 15);

        LabelStation w = smallWith(0);
        w.run(49);
        w.take(0);
        w.run(2);
        onlyCounted("missing", w, 0, 7, 3);

        LabelStation v = smallWith(0);
        v.set(1, 21);
        v.set(4, 1);
        v.run(40);
        onlyCounted("no verdict, alarm 1", v, 0, 2, 13, 14);
        v.run(1);
        onlyCounted("a late verdict", v, 0, 2, 13, 14, 4);

        LabelStation u = smallWith(3);
        u.set(1, 11);
        u.set(2, 20);
        u.run(40);
        onlyCounted("not read", u, 0, 2, 12);
        u.run(20);
        onlyCounted("alarms 2 and 3", u, 0, 2, 12, 15, 16);

        LabelStation t = smallWith(0);
        t.jam(true);
        Check.move(t, 0, 49);
        t.run(1);
        onlyCounted("escaped, alarm 4", t, 0, 8, 9, 17);
        t.reset();
        t.start();
        t.run(39);
        onlyCounted("a label fault", t, 0, 8, 9, 17, 2, 10);
    }
}
