/** Promises 20 to 22: spare, fastest, fate. */
public final class PredictionsTest {
    public static void main(String[] args) {
        spare();
        spareTellsWhetherTheVerdictComesInTime();
        fastest();
        fates();
        fateWithoutRecord();
        fateOfStoppedBelt();
        fateWithAlarm();
        fateStoppedByAnotherAlarm();
        fateAfterThousandTicks();
        Check.end("PredictionsTest");
    }

    private static void spare() {
        LabelStation x = new LabelStation();
        Check.due("spare(1)", x.spare(1), 193);
        Check.due("spare(5)", x.spare(5), 161);
        Check.due("spare(10)", x.spare(10), 121);
        x.set(1, 1);
        Check.due("spare(10), delay 1", x.spare(10), 191);
        x.set(1, 100);
        Check.due("spare(10), delay 100", x.spare(10), -799);
        x.setPlaces(1, 2, 3, 4, 5);
        Check.due("spare(1)", x.spare(1), -97);
        for (int speed : new int[] {0, 11, -1, Integer.MIN_VALUE, Integer.MAX_VALUE}) {
            Check.illegalArgument("spare(" + speed + ")", x, () -> x.spare(speed));
        }
    }

    /** The camera is at a first pulse of a tick; a record without a label fault passes if its verdict is in time. */
    private static void spareTellsWhetherTheVerdictComesInTime() {
        for (int speed = 1; speed <= 10; speed++) {
            for (int delay = 1; delay <= 45; delay++) {
                LabelStation x = new LabelStation();
                int camera = 10 * speed + 1;
                x.setPlaces(5, camera, camera + 1, camera + 83, 999);
                x.set(0, speed);
                x.set(1, delay);
                x.feed(0);
                Check.due("fate(0) with speed " + speed + " and delay " + delay,
                        x.fate(0) == 2, x.spare(speed) <= 0);
            }
        }
    }

    private static void fastest() {
        LabelStation x = new LabelStation();
        Check.due("fastest() at first", x.fastest(), 10);
        int[] delay = {20, 21, 25, 40, 41, 50, 66, 67, 100};
        int[] due = {10, 9, 8, 5, 4, 4, 3, 2, 2};
        for (int index = 0; index < delay.length; index++) {
            x.set(1, delay[index]);
            Check.due("fastest() with delay " + delay[index], x.fastest(), due[index]);
        }
        x.setPlaces(1, 2, 3, 4, 5);
        x.set(1, 2);
        Check.due("fastest(), 2 pulses and delay 2", x.fastest(), 1);
        x.set(1, 3);
        Check.due("fastest(), 2 pulses and delay 3", x.fastest(), LabelStation.NONE);
    }

    private static void fates() {
        int[] due = {1, 2, 1, 2};
        for (int quality = 0; quality <= 3; quality++) {
            LabelStation x = new LabelStation();
            x.start();
            x.feed(quality);
            long before = x.digest();
            Check.due("fate of quality " + quality, x.fate(0), due[quality]);
            Check.due("fate again", x.fate(0), due[quality]);
            Check.due("the digest after it", x.digest(), before);
            x.run(79);
            Check.due("fate before the gate", x.fate(0), due[quality]);
        }
        LabelStation y = new LabelStation();
        y.start();
        y.feed(0);
        y.run(90);
        y.take(0);
        Check.due("fate of a record whose item was taken", y.fate(0), 3);
        LabelStation z = new LabelStation();
        z.start();
        z.feed(0);
        z.jam(true);
        Check.due("fate with a jammed labeler", z.fate(0), 2);
        Check.due("labels after it", z.value(6), 50);
    }

    private static void fateWithoutRecord() {
        LabelStation x = new LabelStation();
        for (int record : new int[] {0, 1, -1, Integer.MIN_VALUE, Integer.MAX_VALUE}) {
            Check.noSuchElement("fate(" + record + ")", x, () -> x.fate(record));
        }
        x.start();
        x.feed(1);
        x.run(80);
        Check.noSuchElement("fate(0) after its reject", x, () -> x.fate(0));
    }

    private static void fateOfStoppedBelt() {
        LabelStation x = new LabelStation();
        x.feed(0);
        Check.due("fate(0) on a belt that stands", x.fate(0), 1);
        Check.due("status(1)", x.status(1), 0);
        Check.due("status(0)", x.status(0), 0);
        x.run(5);
        Check.due("record(0, 0)", x.record(0, 0), 0);
    }

    private static void fateWithAlarm() {
        LabelStation x = new LabelStation();
        x.set(4, 1);
        x.start();
        x.feed(1);
        x.run(10);
        x.feed(0);
        Check.due("fate(1): the reject of 0 stops the belt", x.fate(1), 0);
        x.run(80);
        Check.due("alarm", x.status(2), 1);
        Check.due("fate(1) with an alarm", x.fate(1), 0);
        x.reset();
        Check.due("fate(1) after reset()", x.fate(1), 1);
    }

    private static void fateStoppedByAnotherAlarm() {
        LabelStation x = new LabelStation();
        x.set(4, 1);
        x.start();
        x.feed(1);
        Check.due("the reject that stops the belt", x.fate(0), 2);
        LabelStation y = new LabelStation();
        y.start();
        y.feed(0);
        y.run(20);
        y.take(0);
        y.feed(0);
        Check.due("fate(1): the reject of 0 is not confirmed", y.fate(1), 0);
        Check.due("alarms", y.counter(15), 0);
        y.run(100);
        Check.due("alarms", y.counter(15), 1);
    }

    private static void fateAfterThousandTicks() {
        LabelStation x = new LabelStation();
        x.setPlaces(100, 200, 260, 400, 995);
        x.set(0, 1);
        x.set(5, 4);
        x.feed(0);
        Check.due("it leaves at tick 1000", x.fate(0), 1);
        x.set(5, 5);
        Check.due("it would leave at tick 1001", x.fate(0), 0);
        x.start();
        x.run(1);
        Check.due("a tick later", x.fate(0), 1);
    }
}
