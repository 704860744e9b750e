/** As many items, records, verdicts and expectations as there can be: nothing is lost. */
public final class FullStationTest {
    public static void main(String[] args) {
        fullRegister();
        fullOfVerdicts();
        fullOfExpectations();
        manyItems();
        Check.end("FullStationTest");
    }

    /** Passed records up to position 1020, 30 apart; few items, for they are taken. */
    private static void fullRegister() {
        LabelStation x = new LabelStation();
        PlainStation y = new PlainStation();
        x.setPlaces(1, 2, 3, 20, 1000);
        y.setPlaces(1, 2, 3, 20, 1000);
        x.set(0, 10);
        y.set(0, 10);
        x.set(1, 1);
        y.set(1, 1);
        x.set(5, 20);
        y.set(5, 20);
        x.start();
        y.start();
        int most = 0;
        for (int number = 0; number < 50; number++) {
            Check.due("feed(0)", x.feed(0), y.feed(0));
            Check.due("run(3)", x.run(3), y.run(3));
            if (number % 2 == 0) {
                Check.due("take()", x.take(number), y.take(number));
            }
            Check.due("digest()", x.digest(), y.digest());
            Check.due("fate()", x.fate(number), y.fate(number));
            most = Math.max(most, x.status(4));
        }
        x.feed(0);
        Check.due("most records", Math.max(most, x.status(4)), 35);
    }

    /** A record that enters at each tick, and is rejected at the fourth pulse of the next one. */
    private static LabelStation shortStation() {
        LabelStation x = new LabelStation();
        x.setPlaces(1, 2, 3, 4, 5);
        x.set(0, 10);
        x.set(4, 20);
        x.start();
        return x;
    }

    private static void runOneTick(LabelStation x) {
        x.run(1);
        if (x.status(2) == 1) {
            x.reset();
            x.start();
        }
    }

    private static void fullOfVerdicts() {
        LabelStation x = shortStation();
        x.set(1, 100);
        for (int number = 0; number < 100; number++) {
            x.feed(0);
            runOneTick(x);
            Check.due("verdicts on their way", x.status(5), number + 1);
        }
        x.feed(0);
        runOneTick(x);
        Check.due("verdicts on their way, the first one is delivered", x.status(5), 100);
        for (int late = 1; late <= 101; late++) {
            Check.due("late", x.counter(4), late);
            x.run(1);
        }
        Check.due("none is left", x.status(5), 0);
    }

    private static void fullOfExpectations() {
        LabelStation x = shortStation();
        x.set(3, 100);
        for (int number = 0; number < 101; number++) {
            x.feed(0);
            x.take(number);
            runOneTick(x);
            Check.due("open expectations", x.status(6), number + 1);
        }
        x.feed(0);
        runOneTick(x);
        Check.due("alarms 2", x.counter(15), 1);
        x.run(1);
        Check.due("alarms 2", x.counter(15), 2);
        x.run(99);
        Check.due("alarms 2", x.counter(15), 101);
        Check.due("open expectations", x.status(6), 0);

        LabelStation y = shortStation();
        y.set(2, 50);
        y.set(3, 100);
        for (int number = 0; number < 60; number++) {
            y.feed(1);
            runOneTick(y);
            Check.due("on their way to the bin", y.status(7), Math.min(50, number + 1));
            Check.due("confirmed", y.counter(6), Math.max(0, number - 49));
        }
        y.run(50);
        Check.due("confirmed", y.counter(6), 60);
        Check.due("on their way to the bin", y.status(7), 0);
    }

    /** Numbers go on, far above what is on the belt at once. */
    private static void manyItems() {
        LabelStation x = new LabelStation();
        PlainStation y = new PlainStation();
        x.setPlaces(10, 20, 30, 40, 50);
        y.setPlaces(10, 20, 30, 40, 50);
        x.set(0, 10);
        y.set(0, 10);
        x.set(1, 1);
        y.set(1, 1);
        x.start();
        y.start();
        String text = "0:1:2:3:0:0:0:0:0:0:0:0:0:0:0:0:0:0:0:0:0:0:0:0:0:0:0:0:0:0:0:0:0:0:0:0:0:0:0:0:";
        for (int index = 0; index < text.length(); index++) {
            Check.due("append()", x.append(text.charAt(index)), y.append(text.charAt(index)));
        }
        for (int round = 1; round <= 60; round++) {
            Check.due("carryOut()", x.carryOut(), y.carryOut());
            Check.due("digest()", x.digest(), y.digest());
            Check.due("set(6, 1000)", x.set(6, 1000), y.set(6, 1000));
        }
        Check.due("items fed", x.counter(0), 2400);
    }
}
