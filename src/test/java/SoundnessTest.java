import java.util.Random;

/**
 * What must hold at any time, asked in random runs of LabelStation alone, so that a fault that PlainStation shares
 * is found, too. The seeds are fixed.
 */
public final class SoundnessTest {
    private static final int RUNS = 300;
    private static final int CALLS = 200;
    private static final int[] LEAST = {1, 1, 1, 1, 1, 0, 0};
    private static final int[] MOST = {10, 100, 50, 100, 20, 20, 1000};

    public static void main(String[] args) {
        for (int seed = 1; seed <= RUNS; seed++) {
            soundRun(seed);
            ticksPassInThreeWays(seed);
        }
        Check.end("SoundnessTest");
    }

    private static void soundRun(int seed) {
        Random random = new Random(seed);
        LabelStation x = new LabelStation();
        prepare(x, random);
        for (int call = 0; call < CALLS; call++) {
            made(x, random);
            String when = "seed " + seed + ", call " + call + ": ";
            countersFit(when, x);
            itemsFit(when, x);
            recordsFit(when, x);
        }
        fatesComeTrue("seed " + seed + ": ", x);
    }

    /** The gate and the exit are so far apart that no record passes both of them in one tick. */
    private static void prepare(LabelStation x, Random r) {
        int labeler = 1 + r.nextInt(60);
        int camera = labeler + 1 + r.nextInt(60);
        int second = camera + 1 + r.nextInt(60);
        int gate = second + 1 + r.nextInt(60);
        x.setPlaces(labeler, camera, second, gate, gate + 11 + r.nextInt(60));
        x.set(0, 1 + r.nextInt(10));
        x.set(1, 1 + r.nextInt(12));
        x.set(4, 1 + r.nextInt(20));
    }

    /** One call, or none if it would throw. */
    private static void made(LabelStation x, Random r) {
        try {
            switch (r.nextInt(16)) {
                case 0 -> x.jam(r.nextInt(4) == 0);
                case 1 -> setOne(x, r);
                case 2 -> x.slip(x.numberAt(r.nextInt(x.status(3) + 1), false), r.nextInt(61) - 30);
                case 3 -> x.take(r.nextInt(3) > 0 ? -1 : x.numberAt(r.nextInt(x.status(3) + 1), false));
                case 4 -> x.reset();
                case 5, 6 -> x.start();
                case 7, 8, 9 -> x.feed(r.nextInt(3) > 0 ? 0 : r.nextInt(4));
                case 10 -> x.undo();
                case 11 -> {
                    Check.write(x, "0.:1::2".substring(r.nextInt(3), 3 + r.nextInt(5)));
                    x.carryOut();
                }
                default -> x.run(r.nextInt(9));
            }
        } catch (RuntimeException e) {
            // What is refused, and how, is told by other tests.
        }
    }

    private static void setOne(LabelStation x, Random r) {
        int what = 1 + r.nextInt(6);
        x.set(what, LEAST[what] + r.nextInt(Math.min(25, MOST[what] - LEAST[what]) + 1));
    }

    private static void countersFit(String when, LabelStation x) {
        int gone = x.counter(1) + x.counter(2) + x.counter(3);
        Check.due(when + "reconcile(true)", x.reconcile(true), 0);
        Check.due(when + "reconcile(false)", x.reconcile(false), 0);
        Check.due(when + "records fed", gone + x.status(4), x.counter(0));
        Check.due(when + "goodShare()", x.goodShare(), gone == 0 ? 0.0 : (double) x.counter(1) / (double) gone);
        int causes = x.counter(10) + x.counter(11) + x.counter(12) + x.counter(13);
        Check.due(when + "the causes of the rejects", causes, x.counter(2));
        Check.due(when + "each reject is expected, confirmed, or told by an alarm",
                x.status(6) + x.counter(6) + x.counter(15), x.counter(2));
        int diverted = x.counter(0) - x.counter(8) - x.counter(7) - x.status(3);
        Check.due(when + "each diverted item is on its way, confirms, or gives an alarm",
                x.status(7) + x.counter(6) + x.counter(16), diverted);
        Check.due(when + "each escaped item gives an alarm", x.counter(17), x.counter(9));
        Check.due(when + "the belt stands while there is an alarm", x.status(2) != 0 && x.status(1) == 1, false);
        Check.due(when + "consecutive rejects", x.value(12) <= x.counter(2) && x.value(12) < 20, true);
    }

    private static void itemsFit(String when, LabelStation x) {
        int before = -1;
        for (int index = 0; index < x.status(3); index++) {
            int item = x.numberAt(index, false);
            Check.due(when + "the order of the items", before < item && item < x.counter(0), true);
            int position = x.item(item, 0);
            Check.due(when + "the position of an item", position >= 0 && position < x.value(11), true);
            before = item;
        }
    }

    private static void recordsFit(String when, LabelStation x) {
        int matched = 0;
        int before = -1;
        int gate = x.value(10);
        for (int index = 0; index < x.status(4); index++) {
            int record = x.numberAt(index, true);
            Check.due(when + "the order of the records", before < record && record < x.counter(0), true);
            int position = x.record(record, 0);
            boolean passed = x.record(record, 3) == 1;
            Check.due(when + "passed at the gate", passed, position >= gate);
            Check.due(when + "passed with another verdict than 1, or with a label fault",
                    passed && (x.record(record, 1) != 1 || x.record(record, 2) == 1), false);
            Check.due(when + "matched, but not passed", x.record(record, 4) == 1 && !passed, false);
            Check.due(when + "a record beyond the exit", position <= x.value(11) + 20, true);
            matched += x.record(record, 4);
            before = record;
        }
        Check.due(when + "each item that left at the exit escaped, or has a record",
                x.counter(9) + x.counter(1) + matched, x.counter(8));
    }

    private static void fatesComeTrue(String when, LabelStation x) {
        int count = x.status(4);
        int[] record = new int[count];
        int[] fate = new int[count];
        int[] got = new int[count];
        boolean[] passed = new boolean[count];
        long before = x.digest();
        for (int index = 0; index < count; index++) {
            record[index] = x.numberAt(index, true);
            fate[index] = x.fate(record[index]);
            passed[index] = x.record(record[index], 3) == 1;
        }
        Check.due(when + "the digest after the fates", x.digest(), before);
        if (x.status(1) == 0 && x.status(2) == 0) {
            x.start();
        }
        for (int tick = 1; tick <= 1000; tick++) {
            int leftAsPassed = x.counter(1);
            x.run(1);
            for (int index = 0; index < count; index++) {
                if (got[index] != 0) {
                    continue;
                }
                if (isInRegister(x, record[index])) {
                    passed[index] = x.record(record[index], 3) == 1;
                } else {
                    got[index] = !passed[index] ? 2 : x.counter(1) > leftAsPassed ? 1 : 3;
                }
            }
        }
        for (int index = 0; index < count; index++) {
            Check.due(when + "fate(" + record[index] + ")", fate[index], got[index]);
        }
    }

    private static boolean isInRegister(LabelStation x, int record) {
        for (int index = 0; index < x.status(4); index++) {
            if (x.numberAt(index, true) == record) {
                return true;
            }
        }
        return false;
    }

    /** By one run, by runs of one tick, and by a text; the stations differ in nothing but the saved states. */
    private static void ticksPassInThreeWays(int seed) {
        Random random = new Random(seed);
        LabelStation[] same = {new LabelStation(), new LabelStation(), new LabelStation()};
        int ticks = 1 + random.nextInt(79);
        for (LabelStation x : same) {
            Random r = new Random(seed);
            prepare(x, r);
            for (int call = 0; call < 60; call++) {
                made(x, r);
            }
            x.clearText();
        }
        same[0].run(ticks);
        for (int tick = 0; tick < ticks; tick++) {
            same[1].run(1);
        }
        Check.write(same[2], ":".repeat(ticks / 10) + ".".repeat(ticks % 10));
        same[2].carryOut();
        same[2].clearText();
        long due = same[0].digest() - Check.savedStates(same[0]);
        Check.due("seed " + seed + ", runs of a tick", same[1].digest() - Check.savedStates(same[1]), due);
        Check.due("seed " + seed + ", a text", same[2].digest() - Check.savedStates(same[2]), due);
    }
}
