/** As many items, records, verdicts and expectations as there can be: nothing is lost. */
public final class FullStationTest {
    public static void main(String[] args) {
        fullRegister();
        fullOfVerdicts();
        fullOfExpectations();
        manyItems();
        Check.end("FullStationTest");
    }

    /** Passed records up to position 1020, 30 apart; few items, for they are taken. */
    private static void fullRegister() {
        LabelStation x = new LabelStation();
        PlainStation y = new PlainStation();
        x.setPlaces(1, 2, 3, 20, 1000);
        y.setPlaces(1, 2, 3, 20, 1000);
        x.set(0, 10);
        y.set(0, 10);
        x.set(1, 1);
        y.set(1, 1);
        x.set(5, 20);
        y.set(5, 20);
        x.start();
        y.start();
        int most = 0;
        for (int number = 0; number < 50; number++) {
            Check.due("feed(0)", x.feed(0), y.feed(0));
            Check.due("run(3)", x.run(3), y.run(3));
            if (number % 2 == 0) {
                Check.due("take()", x.take(number), y.take(number));
            }
            Check.due("digest()", x.digest(), y.digest());
            Check.due("fate()", x.fate(number), y.fate(number));
            most = Math.max(most, x.status(4));
        }
        x.feed(0);
        Check.due("most records", Math.max(most, x.status(4)), 35);
    }

    private static void fullOfVerdicts() {
        LabelStation x = new LabelStation();
        x.setPlaces(1, 2, 3, 4, 5);
        x.set(0, 10);
        x.set(1, 100);
        x.set(4, 20);
        x.start();
        int taken = 0;
        for (int number = 0; number < 60; number++) {
            x.feed(0);
            x.run(3);
            if (x.status(2) == 1) {
                x.reset();
                x.start();
                x.run(1);
                x.run(2);
            }
            taken = Math.max(taken, x.status(5));
        }
        Check.due("most verdicts on their way", taken >= 32, true);
        x.stop();
        x.run(100);
        Check.due("all of them came late", x.counter(4), 60);
        Check.due("none is left", x.status(5), 0);
    }

    private static void fullOfExpectations() {
        LabelStation x = new LabelStation();
        x.setPlaces(1, 2, 3, 4, 5);
        x.set(0, 10);
        x.set(2, 50);
        x.set(3, 100);
        x.set(4, 20);
        x.start();
        for (int number = 0; number < 34; number++) {
            x.feed(1);
            if (number % 2 == 0) {
                x.take(number);
            }
            x.run(1);
            if (x.status(2) == 1) {
                x.reset();
                x.start();
            }
            x.run(2);
        }
        Check.due("rejected", x.counter(2), 34);
        Check.due("open expectations", x.status(6), 34 - x.counter(6));
        Check.due("on their way to the bin", x.status(7), 17 - x.counter(6));
        x.stop();
        x.run(200);
        Check.due("confirmed", x.counter(6), 17);
        Check.due("not confirmed", x.counter(15), 17);
    }

    /** Numbers go on, far above what is on the belt at once. */
    private static void manyItems() {
        LabelStation x = new LabelStation();
        PlainStation y = new PlainStation();
        x.setPlaces(10, 20, 30, 40, 50);
        y.setPlaces(10, 20, 30, 40, 50);
        x.set(0, 10);
        y.set(0, 10);
        x.set(1, 1);
        y.set(1, 1);
        x.start();
        y.start();
        String text = "0:1:2:3:0:0:0:0:0:0:0:0:0:0:0:0:0:0:0:0:0:0:0:0:0:0:0:0:0:0:0:0:0:0:0:0:0:0:0:0:";
        for (int index = 0; index < text.length(); index++) {
            Check.due("append()", x.append(text.charAt(index)), y.append(text.charAt(index)));
        }
        for (int round = 1; round <= 60; round++) {
            Check.due("carryOut()", x.carryOut(), y.carryOut());
            Check.due("digest()", x.digest(), y.digest());
            Check.due("set(6, 1000)", x.set(6, 1000), y.set(6, 1000));
        }
        Check.due("items fed", x.counter(0), 2400);
    }
}
