/** What happens when ticks pass (promise 12): labeler, cameras, gate, bin, exit and alarms. */
public final class TicksTest {
    public static void main(String[] args) {
        labelerLabels();
        labelerWastes();
        labelerFaults();
        nearestItemIsMeant();
        toleranceIsInclusive();
        cameraVerdicts();
        cameraDelays();
        secondCamera();
        lateVerdicts();
        causes();
        consecutiveRejects();
        gateDiverts();
        confirmationTimes();
        oldestExpectation();
        alarmThree();
        alarmStopsPulses();
        alarmEndsAfterItsPulse();
        secondAlarmIsOnlyCounted();
        leavesAsPassed();
        leavesAsMissing();
        escapes();
        matchesNearestRecord();
        toleranceCutDown();
        manyActAtOnePulse();
        ticksOfStoppedBelt();
        Check.end("TicksTest");
    }

    /** A small station whose belt runs, with an item of this quality. */
    private static LabelStation smallWith(int quality) {
        LabelStation x = Check.small();
        x.start();
        x.feed(quality);
        return x;
    }

    private static void labelerLabels() {
        LabelStation x = smallWith(0);
        x.run(9);
        Check.due("label at 9", x.item(0, 2), 0);
        Check.due("labels at 9", x.value(6), 50);
        x.run(1);
        Check.due("label at 10", x.item(0, 2), 1);
        Check.due("labels at 10", x.value(6), 49);
        Check.due("wasted", x.counter(5), 0);
        Check.due("fault", x.record(0, 2), 0);
        x.run(1);
        Check.due("labels at 11", x.value(6), 49);
    }

    private static void labelerWastes() {
        LabelStation x = smallWith(0);
        x.run(5);
        x.slip(0, 1);
        x.run(5);
        Check.due("label of an item that slipped", x.item(0, 2), 0);
        Check.due("labels", x.value(6), 49);
        Check.due("wasted", x.counter(5), 1);
        Check.due("fault", x.record(0, 2), 0);
        x.run(40);
        Check.due("rejected as a fail", x.counter(11), 1);
    }

    private static void labelerFaults() {
        LabelStation x = smallWith(0);
        x.set(6, 1);
        x.run(30);
        x.feed(0);
        x.run(10);
        Check.due("the last label was for 0", x.item(0, 2) * 10 + x.value(6), 10);
        Check.due("fault of 0", x.record(0, 2), 0);
        Check.due("label of 1", x.item(1, 2), 0);
        Check.due("fault of 1", x.record(1, 2), 1);
        Check.due("labels", x.value(6), 0);
        Check.due("wasted", x.counter(5), 0);

        LabelStation y = smallWith(0);
        y.jam(true);
        y.run(10);
        Check.due("label from a jammed labeler", y.item(0, 2), 0);
        Check.due("labels of a jammed labeler", y.value(6), 50);
        Check.due("fault", y.record(0, 2), 1);
        y.take(0);
        y.run(30);
        Check.due("rejected for its label fault", y.counter(10), 1);

        LabelStation z = smallWith(0);
        z.jam(true);
        z.run(9);
        z.jam(false);
        z.run(1);
        Check.due("label from a freed labeler", z.item(0, 2), 1);
    }

    /** Item 0 lies at first, item 1 at second, when record 1 is at the labeler. */
    private static int labeled(int first, int second, int tolerance) {
        LabelStation x = new LabelStation();
        x.set(0, 1);
        x.set(5, tolerance);
        x.jam(true);
        x.start();
        x.feed(0);
        x.run(30);
        x.feed(1);
        x.run(99);
        x.jam(false);
        Check.move(x, 0, first - 1);
        Check.move(x, 1, second - 1);
        x.run(1);
        Check.due("position of 0", x.item(0, 0), first);
        Check.due("position of 1", x.item(1, 0), second);
        return x.item(0, 2) + 2 * x.item(1, 2) + 4 * x.counter(5);
    }

    private static void nearestItemIsMeant() {
        Check.due("the nearer one, behind", labeled(106, 95, 10), 2);
        Check.due("the nearer one, before", labeled(105, 94, 10), 1);
        Check.due("two equally near ones", labeled(105, 95, 10), 1);
        Check.due("two equally near ones, the other way", labeled(95, 105, 10), 1);
        Check.due("two at the place", labeled(100, 100, 10), 1);
        Check.due("the second at the place", labeled(99, 100, 10), 2);
        Check.due("only the second is near", labeled(111, 90, 10), 2);
        Check.due("none is near", labeled(111, 89, 10), 4);
    }

    private static void toleranceIsInclusive() {
        Check.due("10 behind", labeled(90, 40, 10), 1);
        Check.due("10 before", labeled(110, 40, 10), 1);
        Check.due("11 behind", labeled(89, 40, 10), 4);
        Check.due("11 before", labeled(111, 40, 10), 4);
        Check.due("20 behind, tolerance 20", labeled(80, 40, 20), 1);
        Check.due("21 before, tolerance 20", labeled(121, 40, 20), 4);
        Check.due("1 before, tolerance 0", labeled(101, 40, 0), 4);
        Check.due("0, tolerance 0", labeled(100, 40, 0), 1);
    }

    private static void cameraVerdicts() {
        int[] first = {1, 2, 3, 3};
        int[] last = {1, 2, 1, 2};
        for (int quality = 0; quality <= 3; quality++) {
            LabelStation x = smallWith(quality);
            x.run(21);
            Check.due("verdict at 21", x.record(0, 1), 0);
            Check.due("verdicts on their way", x.status(5), 1);
            x.run(1);
            Check.due("verdict at 22, quality " + quality, x.record(0, 1), first[quality]);
            Check.due("verdicts on their way", x.status(5), 0);
            x.run(8);
            Check.due("verdicts of the second camera", x.status(5), first[quality] == 3 ? 1 : 0);
            x.run(1);
            Check.due("verdict at 31", x.record(0, 1), first[quality]);
            x.run(1);
            Check.due("verdict at 32, quality " + quality, x.record(0, 1), last[quality]);
            Check.due("late", x.counter(4), 0);
        }
        for (int quality = 0; quality <= 3; quality++) {
            LabelStation x = smallWith(quality);
            x.set(6, 0);
            x.run(22);
            Check.due("verdict without a label, quality " + quality, x.record(0, 1), 2);
        }
        LabelStation y = smallWith(0);
        y.run(12);
        y.take(0);
        y.run(10);
        Check.due("verdict without an item", y.record(0, 1), 2);
    }

    private static void cameraDelays() {
        LabelStation x = smallWith(0);
        x.set(1, 1);
        x.run(20);
        Check.due("verdict at 20", x.record(0, 1), 0);
        x.run(1);
        Check.due("verdict at 21, delay 1", x.record(0, 1), 1);

        LabelStation y = smallWith(0);
        y.set(1, 5);
        y.run(20);
        y.set(1, 1);
        y.run(4);
        Check.due("verdict at 24", y.record(0, 1), 0);
        y.run(1);
        Check.due("verdict at 25, the delay of when it was taken", y.record(0, 1), 1);

        LabelStation z = smallWith(0);
        z.set(1, 20);
        z.run(40);
        Check.due("a verdict that comes at the tick of the gate", z.counter(1) + z.record(0, 3), 1);
        LabelStation w = smallWith(0);
        w.set(1, 21);
        w.run(40);
        Check.due("a verdict that comes a tick later", w.counter(13), 1);
    }

    private static void secondCamera() {
        LabelStation x = smallWith(2);
        x.run(22);
        x.take(0);
        x.run(10);
        Check.due("verdict of the second camera without an item", x.record(0, 1), 2);

        LabelStation y = smallWith(2);
        y.set(1, 10);
        y.run(30);
        Check.due("verdict 3 comes at the tick of the second camera", y.record(0, 1), 3);
        Check.due("so that the camera acts", y.status(5), 1);

        LabelStation z = smallWith(2);
        z.set(1, 11);
        z.run(31);
        Check.due("verdict 3 comes a tick later", z.record(0, 1), 3);
        Check.due("so that the camera did not act", z.status(5), 0);
        z.run(9);
        Check.due("not read", z.counter(12), 1);
    }

    private static void lateVerdicts() {
        LabelStation x = smallWith(0);
        x.set(1, 30);
        x.run(49);
        Check.due("rejected without a verdict", x.counter(13), 1);
        Check.due("on their way", x.status(5), 1);
        Check.due("late at 49", x.counter(4), 0);
        x.run(1);
        Check.due("on their way", x.status(5), 0);
        Check.due("late at 50", x.counter(4), 1);
    }

    private static void causes() {
        LabelStation x = smallWith(0);
        x.jam(true);
        x.run(40);
        Check.due("label fault and fail", x.counter(10) * 10 + x.counter(11), 10);

        LabelStation y = smallWith(0);
        y.jam(true);
        y.set(1, 100);
        y.run(40);
        Check.due("label fault and no verdict", y.counter(10) * 10 + y.counter(13), 10);

        LabelStation z = smallWith(1);
        z.run(40);
        Check.due("fail", z.counter(11), 1);

        LabelStation w = smallWith(3);
        w.run(29);
        w.set(1, 100);
        w.run(11);
        Check.due("not read", w.counter(12), 1);

        LabelStation v = smallWith(3);
        v.run(40);
        Check.due("not read by both is a fail", v.counter(11) * 10 + v.counter(12), 10);

        LabelStation u = smallWith(0);
        u.set(1, 50);
        u.run(40);
        Check.due("no verdict", u.counter(13), 1);
        Check.due("rejected", u.counter(2), 1);
    }

    private static void consecutiveRejects() {
        LabelStation x = Check.small();
        x.set(4, 3);
        x.start();
        int[] quality = {1, 1, 0, 1, 1, 1};
        int[] after = {1, 2, 0, 1, 2, 0};
        for (int number = 0; number < quality.length; number++) {
            x.feed(quality[number]);
            x.run(40);
            Check.due("value(12) after record " + number, x.value(12), after[number]);
            Check.due("alarm after record " + number, x.status(2), number == 5 ? 1 : 0);
            x.run(1);
        }
        Check.due("alarms 1", x.counter(14), 1);
        Check.due("the belt", x.status(1), 0);

        LabelStation y = smallWith(1);
        y.run(40);
        y.set(4, 1);
        Check.due("a limit that is cut down, at once", y.status(2) * 10 + y.value(12), 1);
        y.feed(1);
        y.run(40);
        Check.due("and at the next reject", y.status(2) * 10 + y.value(12), 10);
    }

    private static void gateDiverts() {
        LabelStation x = smallWith(1);
        x.run(39);
        Check.due("before the gate", x.status(3) * 100 + x.status(6) * 10 + x.status(7), 100);
        x.run(1);
        Check.due("at the gate", x.status(3) * 100 + x.status(6) * 10 + x.status(7), 11);
        Check.due("rejected", x.counter(2), 1);
        Check.noSuchElement("record(0, 0)", x, () -> x.record(0, 0));
        Check.noSuchElement("item(0, 0)", x, () -> x.item(0, 0));
        x.set(2, 50);
        x.run(3);
        Check.due("confirmed at 43", x.counter(6), 0);
        x.run(1);
        Check.due("confirmed at 44", x.counter(6), 1);
        Check.due("in the bin", x.status(6) * 10 + x.status(7), 0);

        LabelStation y = smallWith(1);
        y.run(20);
        y.slip(0, 2);
        y.run(20);
        Check.due("nothing at the gate", y.status(3) * 100 + y.status(6) * 10 + y.status(7), 110);

        LabelStation z = smallWith(1);
        z.set(5, 2);
        z.run(20);
        z.slip(0, 2);
        z.run(20);
        Check.due("something near the gate", z.status(3) * 100 + z.status(6) * 10 + z.status(7), 11);
    }

    /** The alarm after these ticks, and the counts of confirmed rejects, alarms 2 and alarms 3. */
    private static int bin(int binDelay, int confirmation, int ticksAfterGate) {
        LabelStation x = smallWith(1);
        x.set(2, binDelay);
        x.set(3, confirmation);
        x.run(40 + ticksAfterGate);
        return x.status(2) * 1000 + x.counter(6) * 100 + x.counter(15) * 10 + x.counter(16);
    }

    private static void confirmationTimes() {
        Check.due("before the arrival", bin(4, 10, 3), 0);
        Check.due("at the arrival", bin(4, 10, 4), 100);
        Check.due("long after it", bin(4, 10, 60), 100);
        Check.due("arrival at the last tick", bin(7, 7, 60), 100);
        Check.due("arrival at the tick after the last one, first of all", bin(8, 7, 60), 100);
        Check.due("open at the last tick", bin(20, 7, 7), 0);
        Check.due("overdue", bin(20, 7, 8), 2010);
        Check.due("not yet there", bin(9, 7, 8), 2010);
        Check.due("there, and not expected", bin(9, 7, 9), 2011);
        Check.due("the least times", bin(1, 1, 1), 100);
        Check.due("the most times", bin(50, 100, 49), 0);
        Check.due("the most times", bin(50, 100, 50), 100);
        LabelStation x = smallWith(1);
        x.set(3, 100);
        x.run(39);
        x.take(0);
        x.run(101);
        Check.due("open for 100 ticks", x.status(6), 1);
        x.run(1);
        Check.due("and no longer", x.status(6) * 10 + x.status(2), 2);
    }

    private static void oldestExpectation() {
        LabelStation x = smallWith(1);
        x.set(3, 60);
        x.set(2, 1);
        x.run(30);
        x.feed(1);
        x.run(9);
        x.take(0);
        x.run(1);
        Check.due("the first expectation, until 100", x.status(6), 1);
        x.set(3, 5);
        x.run(30);
        Check.due("the second one, until 75", x.status(6), 2);
        x.run(1);
        Check.due("confirmed", x.counter(6), 1);
        Check.due("one is open", x.status(6), 1);
        x.run(4);
        Check.due("at 75", x.counter(15), 0);
        x.run(1);
        Check.due("at 76: the oldest was confirmed", x.counter(15) * 10 + x.status(2), 12);
        x.run(40);
        Check.due("and not the other one", x.counter(15), 1);
    }

    private static void alarmThree() {
        LabelStation x = smallWith(1);
        x.set(2, 20);
        x.set(3, 2);
        x.run(45);
        Check.due("reset()", x.reset(), 2);
        Check.due("start()", x.start(), 0);
        x.feed(0);
        x.run(14);
        Check.due("before the arrival", x.status(2) * 10 + x.status(1), 1);
        x.run(1);
        Check.due("an item that is not expected", x.status(2) * 10 + x.status(1), 30);
        Check.due("alarms 3", x.counter(16), 1);
        Check.due("no pulses at the tick of such an alarm", x.item(1, 0), 14);
        Check.due("confirmed", x.counter(6), 0);
    }

    private static void alarmStopsPulses() {
        LabelStation x = new LabelStation();
        x.setPlaces(10, 20, 30, 43, 50);
        x.set(0, 10);
        x.set(4, 1);
        x.start();
        x.feed(1);
        x.run(4);
        x.feed(0);
        x.run(1);
        Check.due("three pulses of ten", x.item(1, 0), 3);
        Check.due("of the record, too", x.record(1, 0), 3);
        Check.due("status(1)", x.status(1), 0);
        x.run(1);
        Check.due("none afterwards", x.item(1, 0), 3);
    }

    /** Record 1 is rejected at the pulse at which item 0 reaches the exit. */
    private static void alarmEndsAfterItsPulse() {
        LabelStation x = new LabelStation();
        x.setPlaces(10, 20, 25, 40, 70);
        x.set(0, 10);
        x.set(1, 1);
        x.set(4, 1);
        x.start();
        x.feed(0);
        x.run(3);
        x.feed(1);
        x.run(4);
        Check.due("alarm", x.status(2), 1);
        Check.due("item 0 has left", x.counter(8), 1);
        Check.due("matched", x.record(0, 4), 1);
        Check.due("the position of its record", x.record(0, 0), 70);
        Check.due("alarms 4", x.counter(17), 0);
    }

    private static void secondAlarmIsOnlyCounted() {
        LabelStation y = smallWith(1);
        y.set(3, 1);
        y.set(2, 4);
        y.run(50);
        Check.due("the first alarm stays", y.status(2), 2);
        Check.due("both are counted", y.counter(15) * 10 + y.counter(16), 11);

        LabelStation z = new LabelStation();
        z.setPlaces(10, 20, 25, 40, 70);
        z.set(0, 1);
        z.set(4, 1);
        z.start();
        z.feed(1);
        z.run(30);
        Check.move(z, 0, 60);
        z.run(10);
        Check.due("alarms 1 and 4 at the same pulse", z.status(2), 1);
        Check.due("both are counted", z.counter(14) * 10 + z.counter(17), 11);
        Check.due("escaped", z.counter(9), 1);
    }

    private static void leavesAsPassed() {
        LabelStation x = smallWith(0);
        x.set(5, 3);
        x.run(39);
        Check.due("passed at 39", x.record(0, 3), 0);
        x.run(1);
        Check.due("passed at 40", x.record(0, 3), 1);
        x.run(9);
        Check.due("matched at 49", x.record(0, 4), 0);
        x.run(1);
        Check.due("matched at 50", x.record(0, 4), 1);
        Check.due("left at the exit", x.counter(8), 1);
        Check.due("items on the belt", x.status(3), 0);
        x.run(3);
        Check.due("the record at 53", x.record(0, 0), 53);
        Check.due("counter(1)", x.counter(1), 0);
        x.run(1);
        Check.noSuchElement("record(0, 0) at 54", x, () -> x.record(0, 0));
        Check.due("counter(1)", x.counter(1), 1);
        Check.due("escaped", x.counter(9), 0);
    }

    private static void leavesAsMissing() {
        LabelStation x = smallWith(0);
        x.run(45);
        x.take(0);
        x.run(5);
        Check.due("the record at 50", x.record(0, 4), 0);
        x.run(1);
        Check.due("missing", x.counter(3), 1);
        Check.due("records", x.status(4), 0);
        Check.due("alarms", x.status(2), 0);
    }

    private static void escapes() {
        LabelStation x = smallWith(0);
        x.run(45);
        x.slip(0, -1);
        x.run(5);
        Check.due("alarm at 50", x.status(2), 0);
        x.run(1);
        Check.due("the record has left first", x.counter(3), 1);
        Check.due("escaped", x.counter(9), 1);
        Check.due("left at the exit", x.counter(8), 1);
        Check.due("alarm", x.status(2) * 10 + x.counter(17), 41);
        Check.due("status(1)", x.status(1), 0);
        Check.due("reconcile(true)", x.reconcile(true), 0);

        LabelStation y = smallWith(0);
        y.set(5, 3);
        y.run(45);
        y.slip(0, -3);
        y.run(8);
        Check.due("within the tolerance", y.status(2) * 10 + y.record(0, 4), 1);
        LabelStation z = smallWith(0);
        z.set(5, 3);
        z.run(45);
        z.slip(0, 3);
        z.run(2);
        Check.due("within the tolerance, before", z.status(2) * 10 + z.record(0, 4), 1);
        LabelStation w = smallWith(0);
        w.set(5, 3);
        w.run(45);
        w.slip(0, 4);
        w.run(1);
        Check.due("out of the tolerance, before", w.status(2) * 10 + w.record(0, 4), 40);
    }

    /** Which of the passed records 0 and 1 is matched, when item 1 is at the exit and the records are there. */
    private static int matched(int first) {
        LabelStation x = new LabelStation();
        x.setPlaces(10, 20, 25, 60, 200);
        x.set(0, 1);
        x.set(1, 1);
        x.start();
        x.feed(0);
        x.run(30);
        x.feed(0);
        x.run(100);
        Check.due("both are passed", x.record(0, 3) + x.record(1, 3), 2);
        x.set(5, 20);
        x.take(0);
        x.run(first - 1 - x.record(0, 0));
        Check.move(x, 1, 199);
        x.run(1);
        Check.due("position of record 0", x.record(0, 0), first);
        return x.record(0, 4) + 2 * x.record(1, 4) + 4 * x.counter(9);
    }

    private static void matchesNearestRecord() {
        Check.due("none within the tolerance", matched(179), 4);
        Check.due("20 before the exit", matched(180), 1);
        Check.due("at the exit", matched(200), 1);
        Check.due("14 behind, the other 16 before", matched(214), 1);
        Check.due("15 behind, the other 15 before", matched(215), 1);
        Check.due("16 behind, the other 14 before", matched(216), 2);
        Check.due("20 behind, the other 10 before", matched(220), 2);

        LabelStation x = new LabelStation();
        x.setPlaces(10, 20, 25, 60, 200);
        x.set(0, 1);
        x.set(1, 1);
        x.start();
        x.feed(0);
        x.run(30);
        x.feed(0);
        x.run(169);
        x.set(5, 20);
        x.run(10);
        Check.due("item 0 is matched with record 0", x.record(0, 4) * 10 + x.record(1, 4), 10);
        Check.move(x, 1, 199);
        x.run(1);
        Check.due("item 1 not with record 0 again", x.record(0, 4) * 10 + x.record(1, 4), 11);

        LabelStation y = new LabelStation();
        y.setPlaces(10, 20, 25, 195, 200);
        y.set(0, 1);
        y.start();
        y.feed(0);
        y.run(190);
        y.slip(0, 9);
        y.run(1);
        Check.due("a record that is not passed is not matched", y.record(0, 3) * 10 + y.status(2), 4);
        Check.due("escaped", y.counter(9), 1);
    }

    private static void toleranceCutDown() {
        LabelStation x = smallWith(0);
        x.set(5, 20);
        x.run(65);
        Check.due("position", x.record(0, 0), 65);
        x.set(5, 3);
        Check.due("it is still there", x.record(0, 0), 65);
        x.run(1);
        Check.due("beyond is enough", x.counter(1) * 10 + x.status(4), 10);
    }

    private static void manyActAtOnePulse() {
        LabelStation x = smallWith(1);
        x.run(30);
        x.feed(0);
        x.run(10);
        Check.due("record 0 is rejected", x.counter(2), 1);
        Check.due("at the same pulse, item 1 gets its label", x.item(1, 2), 1);
        LabelStation v = smallWith(1);
        v.run(30);
        v.feed(0);
        v.jam(true);
        v.run(10);
        Check.due("at the same pulse, record 1 gets its label fault", v.record(1, 2), 1);

        LabelStation y = Check.small();
        y.set(5, 9);
        y.start();
        y.feed(0);
        y.run(30);
        y.feed(2);
        y.run(30);
        Check.due("record 0 leaves", y.counter(1), 1);
        Check.due("at the same pulse, the second camera acts on record 1", y.record(1, 0) * 10 + y.status(5), 301);

        LabelStation z = new LabelStation();
        z.set(0, 1);
        z.start();
        z.feed(0);
        z.run(30);
        z.feed(0);
        z.run(30);
        Check.move(z, 1, 499);
        Check.move(z, 0, 498);
        z.run(1);
        Check.due("an item overtakes one with a lower number", z.counter(8), 1);
        Check.due("which stays", z.numberAt(0, false), 0);
        Check.move(z, 0, 498);
        z.reset();
        z.start();
        z.run(1);
        Check.due("and follows", z.counter(8) * 10 + z.counter(9), 11);

        LabelStation w = new LabelStation();
        w.set(0, 1);
        w.start();
        w.feed(0);
        w.run(30);
        w.feed(0);
        w.run(30);
        Check.move(w, 1, 499);
        Check.move(w, 0, 499);
        w.run(1);
        Check.due("two items leave at one pulse", w.counter(8) * 10 + w.counter(17), 22);
    }

    private static void ticksOfStoppedBelt() {
        LabelStation x = smallWith(0);
        x.run(20);
        x.stop();
        x.run(1);
        Check.due("verdict at 21", x.record(0, 1), 0);
        x.run(1);
        Check.due("verdicts come on a stopped belt", x.record(0, 1), 1);

        LabelStation y = smallWith(1);
        y.run(40);
        y.stop();
        y.run(4);
        Check.due("items arrive in the bin of a stopped belt", y.counter(6), 1);

        LabelStation z = smallWith(1);
        z.run(39);
        z.take(0);
        z.run(1);
        z.stop();
        z.run(11);
        Check.due("expectations end on a stopped belt", z.status(2), 2);
        Check.due("an alarm on a stopped belt", z.status(1), 0);
    }
}
