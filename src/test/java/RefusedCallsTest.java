import java.util.NoSuchElementException;

/** Exceptions: a station that refuses a call goes on like its twin that never got it. */
public final class RefusedCallsTest {
    private static final Class<?> ARGUMENT = IllegalArgumentException.class;
    private static final Class<?> STATE = IllegalStateException.class;
    private static final Class<?> ELEMENT = NoSuchElementException.class;
    private static final Class<?> BOUNDS = IndexOutOfBoundsException.class;

    /** Makes the same station again and again. */
    private interface Maker {
        LabelStation made();
    }

    private interface Call {
        void on(LabelStation x);
    }

    public static void main(String[] args) {
        newStation();
        busyStation();
        stationWithAlarm();
        fullStation();
        textsWithFaults();
        firstListedException();
        Check.end("RefusedCallsTest");
    }

    /** A verdict, an expectation and an item for the bin on their way, four saved states, and a text. */
    private static LabelStation busy() {
        LabelStation x = Check.small();
        x.set(1, 4);
        x.set(2, 30);
        x.set(3, 40);
        x.start();
        x.feed(1);
        x.run(30);
        x.feed(2);
        Check.write(x, "..:");
        x.run(21);
        return x;
    }

    private static LabelStation alarmed() {
        LabelStation x = Check.small();
        x.set(4, 1);
        x.start();
        x.feed(1);
        x.run(30);
        x.feed(0);
        x.run(10);
        return x;
    }

    private static LabelStation full() {
        LabelStation x = new LabelStation();
        x.setPlaces(100, 200, 260, 900, 1000);
        x.set(0, 10);
        x.start();
        Check.write(x, "0...".repeat(20));
        x.carryOut();
        x.set(4, 2);
        return x;
    }

    private static void refuses(String call, Class<?> want, Maker maker, Call made) {
        LabelStation x = maker.made();
        Class<?> got = null;
        try {
            made.on(x);
        } catch (RuntimeException e) {
            got = e.getClass();
        }
        Check.due(call + " throws " + (want == null ? "nothing" : want.getSimpleName()), got == want, true);
        goesOnLikeItsTwin(call, x, maker.made());

        LabelStation y = maker.made();
        try {
            made.on(y);
        } catch (RuntimeException e) {
            Check.due(call + " throws the same again", e.getClass() == got, true);
        }
        goesBackLikeItsTwin(call, y, maker.made());
    }

    private static void goesOnLikeItsTwin(String call, LabelStation x, LabelStation twin) {
        Check.due(call + ", digest()", x.digest(), twin.digest());
        for (int tick = 0; tick < 70; tick++) {
            x.run(1);
            twin.run(1);
            Check.due(call + ", digest() " + tick + " ticks later", x.digest(), twin.digest());
        }
        Check.due(call + ", jam()", x.jam(false), twin.jam(false));
        Check.due(call + ", carryOut()", x.carryOut(), twin.carryOut());
        Check.due(call + ", clearText()", x.clearText(), twin.clearText());
        Check.due(call + ", reconcile()", x.reconcile(true), twin.reconcile(true));
    }

    private static void goesBackLikeItsTwin(String call, LabelStation x, LabelStation twin) {
        for (int back = Check.savedStates(twin); back > 0; back--) {
            Check.due(call + ", undo()", x.undo(), twin.undo());
            Check.due(call + ", digest() after it", x.digest(), twin.digest());
        }
        Check.illegalState(call + ", undo() once more", x, () -> x.undo());
    }

    private static void newStation() {
        Check.sentence("A call that throws an exception changes nothing. (a new station)");
        Maker fresh = LabelStation::new;
        refuses("setPlaces(1, 2, 3, 5, 4)", ARGUMENT, fresh, x -> x.setPlaces(1, 2, 3, 5, 4));
        refuses("setPlaces(1, 2, 3, 4, 1001)", ARGUMENT, fresh, x -> x.setPlaces(1, 2, 3, 4, 1001));
        refuses("set(0, 11)", ARGUMENT, fresh, x -> x.set(0, 11));
        refuses("set(7, 5)", ARGUMENT, fresh, x -> x.set(7, 5));
        refuses("value(13)", ARGUMENT, fresh, x -> x.value(13));
        refuses("stop()", STATE, fresh, x -> x.stop());
        refuses("reset()", STATE, fresh, x -> x.reset());
        refuses("feed(4)", ARGUMENT, fresh, x -> x.feed(4));
        refuses("slip(0, 1)", ELEMENT, fresh, x -> x.slip(0, 1));
        refuses("take(0)", ELEMENT, fresh, x -> x.take(0));
        refuses("run(1001)", ARGUMENT, fresh, x -> x.run(1001));
        refuses("run(-1)", ARGUMENT, fresh, x -> x.run(-1));
        refuses("status(8)", ARGUMENT, fresh, x -> x.status(8));
        refuses("item(0, 0)", ELEMENT, fresh, x -> x.item(0, 0));
        refuses("record(0, 0)", ELEMENT, fresh, x -> x.record(0, 0));
        refuses("numberAt(0, true)", BOUNDS, fresh, x -> x.numberAt(0, true));
        refuses("counter(18)", ARGUMENT, fresh, x -> x.counter(18));
        refuses("spare(0)", ARGUMENT, fresh, x -> x.spare(0));
        refuses("fate(0)", ELEMENT, fresh, x -> x.fate(0));
        refuses("append(128)", ARGUMENT, fresh, x -> x.append(128));
        refuses("undo()", STATE, fresh, x -> x.undo());
    }

    private static void busyStation() {
        Check.sentence("A call that throws an exception changes nothing. (a station with much on its way)");
        LabelStation seen = busy();
        Check.due("on their way", seen.status(5) * 100 + seen.status(6) * 10 + seen.status(7), 111);
        Maker busy = RefusedCallsTest::busy;
        refuses("setPlaces(1, 2, 3, 4, 5)", STATE, busy, x -> x.setPlaces(1, 2, 3, 4, 5));
        refuses("setPlaces(5, 4, 3, 2, 1)", ARGUMENT, busy, x -> x.setPlaces(5, 4, 3, 2, 1));
        refuses("set(6, 1001)", ARGUMENT, busy, x -> x.set(6, 1001));
        refuses("start()", STATE, busy, x -> x.start());
        refuses("reset()", STATE, busy, x -> x.reset());
        refuses("feed(0)", STATE, busy, x -> x.feed(0));
        refuses("feed(-1)", ARGUMENT, busy, x -> x.feed(-1));
        refuses("slip(1, 31)", ARGUMENT, busy, x -> x.slip(1, 31));
        refuses("slip(1, -22)", ARGUMENT, busy, x -> x.slip(1, -22));
        refuses("slip(1, 29)", ARGUMENT, busy, x -> x.slip(1, 29));
        refuses("slip(0, 0)", ELEMENT, busy, x -> x.slip(0, 0));
        refuses("take(0)", ELEMENT, busy, x -> x.take(0));
        refuses("take(2)", ELEMENT, busy, x -> x.take(2));
        refuses("run(1001)", ARGUMENT, busy, x -> x.run(1001));
        refuses("item(1, 3)", ARGUMENT, busy, x -> x.item(1, 3));
        refuses("record(1, 5)", ARGUMENT, busy, x -> x.record(1, 5));
        refuses("numberAt(1, false)", BOUNDS, busy, x -> x.numberAt(1, false));
        refuses("numberAt(1, true)", BOUNDS, busy, x -> x.numberAt(1, true));
        refuses("fate(0)", ELEMENT, busy, x -> x.fate(0));
        refuses("append(-1)", ARGUMENT, busy, x -> x.append(-1));
    }

    private static void stationWithAlarm() {
        Check.sentence("A call that throws an exception changes nothing. (a station with an alarm)");
        Maker alarmed = RefusedCallsTest::alarmed;
        refuses("start()", STATE, alarmed, x -> x.start());
        refuses("stop()", STATE, alarmed, x -> x.stop());
        refuses("feed(0)", STATE, alarmed, x -> x.feed(0));
        refuses("setPlaces(1, 2, 3, 4, 5)", STATE, alarmed, x -> x.setPlaces(1, 2, 3, 4, 5));
        refuses("slip(0, 1)", ELEMENT, alarmed, x -> x.slip(0, 1));
    }

    private static void fullStation() {
        Check.sentence("A call that throws an exception changes nothing. (a full station)");
        Maker full = RefusedCallsTest::full;
        refuses("feed(0)", STATE, full, x -> x.feed(0));
        refuses("append('.')", STATE, full, x -> x.append('.'));
        refuses("append(128)", ARGUMENT, full, x -> x.append(128));
        refuses("numberAt(20, false)", BOUNDS, full, x -> x.numberAt(20, false));
        refuses("slip(19, -31)", ARGUMENT, full, x -> x.slip(19, -31));
    }

    private static void textsWithFaults() {
        Check.sentence("If one of these would throw an exception, nothing is changed.");
        for (String text : new String[] {"0", ":.0:0:0", "::::0::00", ".........x", "x"}) {
            Maker busy = () -> {
                LabelStation x = busy();
                Check.write(x, text);
                return x;
            };
            refuses("carryOut() of " + text, null, busy, x -> Check.due("carryOut() < 0", x.carryOut() < 0, true));
        }
        refuses("carryOut()", null, RefusedCallsTest::full, x -> Check.due("carryOut()", x.carryOut(), -1000));
    }

    private static void firstListedException() {
        Check.sentence("If several exceptions apply, the one that is listed first is thrown.");
        Maker busy = RefusedCallsTest::busy;
        refuses("setPlaces(), two faults", ARGUMENT, busy, x -> x.setPlaces(0, 2, 3, 4, 5));
        refuses("feed(), two faults", ARGUMENT, busy, x -> x.feed(4));
        refuses("feed(), three faults", ARGUMENT, RefusedCallsTest::full, x -> x.feed(4));
        refuses("slip(), two faults", ELEMENT, busy, x -> x.slip(7, 31));
        refuses("item(), two faults", ELEMENT, busy, x -> x.item(7, 3));
        refuses("record(), two faults", ELEMENT, busy, x -> x.record(7, 5));
        refuses("append(), two faults", ARGUMENT, RefusedCallsTest::full, x -> x.append(-1));
    }
}
