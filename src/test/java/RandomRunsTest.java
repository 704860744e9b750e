import java.util.Random;

/** Random runs of 512 calls, the same on LabelStation and on PlainStation; the seeds are fixed. */
public final class RandomRunsTest {
    private static final int RUNS = 600;
    private static final int CALLS = 512;

    private static final int[] DENSE = {1, 5, 5, 7, 7, 7, 21, 21, 21, 22};

    private interface Call {
        Object made();
    }

    public static void main(String[] args) {
        for (int seed = 1; seed <= RUNS; seed++) {
            run(seed);
        }
        Check.end("RandomRunsTest");
    }

    private static String answer(Call call) {
        try {
            return String.valueOf(call.made());
        } catch (RuntimeException e) {
            return e.getClass().getName();
        }
    }

    private static void run(int seed) {
        Random random = new Random(seed);
        LabelStation x = new LabelStation();
        PlainStation y = new PlainStation();
        // Some runs have wild numbers, some few calls besides feeding and running, some an item at each tick.
        int style = seed % 4;
        if (style == 2) {
            x.setPlaces(1, 2, 3, 4, 5);
            y.setPlaces(1, 2, 3, 4, 5);
            x.set(0, 10);
            y.set(0, 10);
            x.set(4, 20);
            y.set(4, 20);
        }
        for (int call = 0; call < CALLS; call++) {
            int which = kind(style, random);
            long seedOfCall = random.nextLong();
            String told = "seed " + seed + ", call " + call + ", kind " + which;
            String got = answer(() -> made(x, null, which, style, new Random(seedOfCall)));
            String due = answer(() -> made(null, y, which, style, new Random(seedOfCall)));
            Check.due(told + ", " + got + " as " + due, got.equals(due), true);
            Check.due(told + ", digest", x.digest(), y.digest());
        }
    }

    private static int kind(int style, Random random) {
        if (style == 2 && random.nextInt(3) > 0) {
            return DENSE[random.nextInt(DENSE.length)];
        }
        return random.nextInt(style == 1 ? 24 : 34);
    }

    /** One call on x or, without x, on y. */
    private static Object made(LabelStation x, PlainStation y, int which, int style, Random r) {
        boolean real = x != null;
        int a;
        int b;
        switch (which) {
            case 0:
                int[] p = places(style, r);
                return real ? x.setPlaces(p[0], p[1], p[2], p[3], p[4]) : y.setPlaces(p[0], p[1], p[2], p[3], p[4]);
            case 1:
            case 2:
                a = number(-1, 7, style, r);
                b = number(0, most(a), style, r);
                return real ? x.set(a, b) : y.set(a, b);
            case 3:
                boolean jammed = r.nextInt(3) == 0;
                return real ? x.jam(jammed) : y.jam(jammed);
            case 4:
            case 5:
                return real ? x.start() : y.start();
            case 6:
                return r.nextInt(4) == 0 ? (real ? x.stop() : y.stop()) : (real ? x.start() : y.start());
            case 7:
            case 8:
                return real ? x.reset() : y.reset();
            case 9:
            case 10:
            case 11:
            case 12:
                a = r.nextInt(3) == 0 ? number(-1, 4, style, r) : 0;
                return real ? x.feed(a) : y.feed(a);
            case 13:
                a = someNumber(x, y, false, style, r);
                b = number(-31, 31, style, r);
                return real ? x.slip(a, b) : y.slip(a, b);
            case 14:
                a = someNumber(x, y, false, style, r);
                return r.nextInt(2) == 0 ? 0 : real ? x.take(a) : y.take(a);
            case 15:
            case 16:
            case 17:
            case 18:
            case 19:
                a = r.nextInt(12) == 0 ? number(-1, 1001, style, r) : number(1, 9, 0, r);
                return real ? x.run(a) : y.run(a);
            case 20:
                a = someNumber(x, y, true, style, r);
                return real ? x.fate(a) : y.fate(a);
            case 21:
            case 22:
                return writtenAndCarriedOut(x, y, style, r);
            case 23:
                return r.nextInt(3) > 0 ? 0 : real ? x.undo() : y.undo();
            case 24:
                a = number(-1, 13, style, r);
                return real ? x.value(a) : y.value(a);
            case 25:
                a = number(-1, 8, style, r);
                return real ? x.status(a) : y.status(a);
            case 26:
                a = someNumber(x, y, false, style, r);
                b = number(-1, 3, style, r);
                return real ? x.item(a, b) : y.item(a, b);
            case 27:
                a = someNumber(x, y, true, style, r);
                b = number(-1, 5, style, r);
                return real ? x.record(a, b) : y.record(a, b);
            case 28:
                a = number(-1, 21, style, r);
                boolean records = r.nextBoolean();
                return real ? x.numberAt(a, records) : y.numberAt(a, records);
            case 29:
                a = number(-1, 18, style, r);
                return real ? x.counter(a) : y.counter(a);
            case 30:
                boolean items = r.nextBoolean();
                return real ? x.reconcile(items) : y.reconcile(items);
            case 31:
                return real ? x.goodShare() : y.goodShare();
            case 32:
                a = number(0, 11, style, r);
                return real ? x.spare(a) : y.spare(a);
            default:
                return real ? x.fastest() : y.fastest();
        }
    }

    private static Object writtenAndCarriedOut(LabelStation x, PlainStation y, int style, Random r) {
        boolean real = x != null;
        StringBuilder answers = new StringBuilder();
        if (r.nextInt(3) > 0) {
            answers.append(real ? x.clearText() : y.clearText());
        }
        int length = r.nextInt(10) == 0 ? r.nextInt(90) : r.nextInt(12);
        String from = r.nextInt(10) == 0 ? "0.:x" : "0123..::::::0000";
        boolean dense = style == 2 && r.nextInt(8) > 0;
        length = dense ? 2 * r.nextInt(20) : length;
        for (int index = 0; index < length; index++) {
            int value = dense ? (index % 2 == 0 ? r.nextInt(2) + '0' : '.') : r.nextInt(300) == 0 ? r.nextInt(400) - 100 : from.charAt(r.nextInt(from.length()));
            answers.append(' ').append(answer(() -> real ? x.append(value) : y.append(value)));
        }
        return answers.append(' ').append(real ? x.carryOut() : y.carryOut()).toString();
    }

    private static int most(int what) {
        int[] most = {11, 101, 51, 101, 21, 21, 1001};
        return what < 0 || what > 6 ? 10 : most[what];
    }

    private static int number(int least, int most, int style, Random r) {
        if (style == 3 && r.nextInt(20) == 0) {
            return r.nextBoolean() ? r.nextInt() : r.nextBoolean() ? Integer.MAX_VALUE : Integer.MIN_VALUE;
        }
        return least + r.nextInt(most - least + 1);
    }

    private static int someNumber(LabelStation x, PlainStation y, boolean records, int style, Random r) {
        int count = x != null ? x.status(records ? 4 : 3) : y.status(records ? 4 : 3);
        if (count == 0 || r.nextInt(10) == 0) {
            return number(-1, 30, style, r);
        }
        int index = r.nextInt(count);
        return x != null ? x.numberAt(index, records) : y.numberAt(index, records);
    }

    private static int[] places(int style, Random r) {
        int[] places = new int[5];
        int at = 0;
        int step = style == 0 ? 20 : 199;
        for (int place = 0; place < 5; place++) {
            at += number(place == 0 || r.nextInt(20) > 0 ? 1 : 0, step, style, r);
            places[place] = at;
        }
        return places;
    }
}
