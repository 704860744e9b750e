import java.util.ArrayList;
import java.util.List;
import java.util.NoSuchElementException;

/**
 * The document once more, written with lists, objects and full copies, so that random runs can be compared.
 * It shares no thought with LabelStation but the document.
 */
final class PlainStation {
    static final class Item {
        int number;
        int position;
        int quality;
        boolean label;
    }

    static final class Rec {
        int number;
        int position;
        int verdict;
        boolean fault;
        boolean passed;
        boolean matched;
    }

    static final class Verdict {
        int due;
        int record;
        int camera;
        String result;
    }

    static final class World {
        int[] set = {5, 8, 4, 10, 5, 10, 50};
        int[] place = {100, 200, 260, 400, 500};
        int[] counter = new int[18];
        boolean jammed;
        boolean running;
        int alarm;
        int tick;
        int row;
        int diverted;
        List<Item> items = new ArrayList<>();
        List<Rec> records = new ArrayList<>();
        List<Verdict> verdicts = new ArrayList<>();
        List<Integer> bin = new ArrayList<>();
        List<Integer> expected = new ArrayList<>();

        World copy() {
            World w = new World();
            w.set = set.clone();
            w.place = place.clone();
            w.counter = counter.clone();
            w.jammed = jammed;
            w.running = running;
            w.alarm = alarm;
            w.tick = tick;
            w.row = row;
            w.diverted = diverted;
            for (Item i : items) {
                Item c = new Item();
                c.number = i.number;
                c.position = i.position;
                c.quality = i.quality;
                c.label = i.label;
                w.items.add(c);
            }
            for (Rec r : records) {
                Rec c = new Rec();
                c.number = r.number;
                c.position = r.position;
                c.verdict = r.verdict;
                c.fault = r.fault;
                c.passed = r.passed;
                c.matched = r.matched;
                w.records.add(c);
            }
            w.verdicts.addAll(verdicts);
            w.bin.addAll(bin);
            w.expected.addAll(expected);
            return w;
        }

        Item itemNear(int where) {
            Item best = null;
            for (int d = 0; d <= set[5] && best == null; d++) {
                for (Item i : items) {
                    if (best == null && Math.abs(i.position - where) == d) {
                        best = i;
                    }
                }
            }
            return best;
        }

        Rec find(int number) {
            for (Rec r : records) {
                if (r.number == number) {
                    return r;
                }
            }
            return null;
        }

        void alarm(int kind) {
            counter[13 + kind]++;
            if (alarm == 0) {
                alarm = kind;
                running = false;
            }
        }

        void tick() {
            tick++;
            List<Verdict> waiting = new ArrayList<>();
            for (Verdict v : verdicts) {
                if (v.due != tick) {
                    waiting.add(v);
                    continue;
                }
                Rec r = find(v.record);
                if (r == null || r.passed) {
                    counter[4]++;
                } else if (v.camera == 1 && r.verdict == 0) {
                    r.verdict = v.result.equals("pass") ? 1 : v.result.equals("fail") ? 2 : 3;
                } else if (v.camera == 2 && r.verdict != 1 && r.verdict != 2) {
                    r.verdict = v.result.equals("pass") ? 1 : 2;
                }
            }
            verdicts = waiting;
            int now = tick;
            for (int due : new ArrayList<>(bin)) {
                if (due == now) {
                    if (expected.isEmpty()) {
                        alarm(3);
                    } else {
                        expected.remove(0);
                        counter[6]++;
                    }
                }
            }
            bin.removeIf(due -> due == now);
            for (int last : new ArrayList<>(expected)) {
                if (last < now) {
                    alarm(2);
                }
            }
            expected.removeIf(last -> last < now);
            int pulses = set[0];
            while (pulses > 0 && running) {
                pulse();
                pulses--;
            }
        }

        void pulse() {
            for (Item i : items) {
                i.position++;
            }
            for (Rec r : records) {
                r.position++;
            }
            for (Rec r : new ArrayList<>(records)) {
                if (r.position == place[0]) {
                    labeler(r);
                }
                if (r.position == place[1]) {
                    camera(r, 1);
                }
                if (r.position == place[2] && r.verdict == 3) {
                    camera(r, 2);
                }
                if (r.position == place[3]) {
                    gate(r);
                }
                if (r.position >= place[4] + set[5] + 1) {
                    records.remove(r);
                    counter[r.matched ? 1 : 3]++;
                }
            }
            for (Item i : new ArrayList<>(items)) {
                if (i.position == place[4]) {
                    items.remove(i);
                    counter[8]++;
                    Rec best = null;
                    for (Rec r : records) {
                        int d = Math.abs(r.position - place[4]);
                        if (r.passed && !r.matched && d <= set[5]
                                && (best == null || d < Math.abs(best.position - place[4]))) {
                            best = r;
                        }
                    }
                    if (best != null) {
                        best.matched = true;
                    } else {
                        counter[9]++;
                        alarm(4);
                    }
                }
            }
        }

        void labeler(Rec r) {
            if (set[6] > 0 && !jammed) {
                set[6]--;
                Item i = itemNear(place[0]);
                if (i == null) {
                    counter[5]++;
                } else {
                    i.label = true;
                }
            } else {
                r.fault = true;
            }
        }

        void camera(Rec r, int which) {
            Item i = itemNear(place[which]);
            Verdict v = new Verdict();
            v.camera = which;
            v.due = tick + set[1];
            v.record = r.number;
            if (i == null || !i.label || i.quality == 1) {
                v.result = "fail";
            } else if (i.quality == 0 || i.quality == 2 && which == 2) {
                v.result = "pass";
            } else {
                v.result = "not read";
            }
            verdicts.add(v);
        }

        void gate(Rec r) {
            if (r.verdict == 1 && !r.fault) {
                r.passed = true;
                row = 0;
                return;
            }
            records.remove(r);
            counter[2]++;
            counter[r.fault ? 10 : r.verdict == 2 ? 11 : r.verdict == 3 ? 12 : 13]++;
            Item i = itemNear(place[3]);
            if (i != null) {
                items.remove(i);
                diverted++;
                bin.add(tick + set[2]);
            }
            expected.add(tick + set[3]);
            row++;
            if (row >= set[4]) {
                alarm(1);
                row = 0;
            }
        }

        boolean room() {
            boolean room = items.size() < 20;
            for (Item i : items) {
                room &= i.position >= 30;
            }
            for (Rec r : records) {
                room &= r.position >= 30;
            }
            return room;
        }

        int enter(int quality) {
            Item i = new Item();
            i.number = counter[0];
            i.quality = quality;
            items.add(i);
            Rec r = new Rec();
            r.number = counter[0];
            records.add(r);
            return counter[0]++;
        }
    }

    private World w = new World();
    private final List<World> saved = new ArrayList<>();
    private String text = "";

    private void save(World before) {
        saved.add(before);
        if (saved.size() > 4) {
            saved.remove(0);
        }
    }

    private void save() {
        save(w.copy());
    }

    private static void argument(boolean fine) {
        if (!fine) {
            throw new IllegalArgumentException();
        }
    }

    private static void state(boolean fine) {
        if (!fine) {
            throw new IllegalStateException();
        }
    }

    private Item onBelt(int number) {
        for (Item i : w.items) {
            if (i.number == number) {
                return i;
            }
        }
        throw new NoSuchElementException();
    }

    private Rec inRegister(int number) {
        Rec r = w.find(number);
        if (r == null) {
            throw new NoSuchElementException();
        }
        return r;
    }

    int setPlaces(int a, int b, int c, int d, int e) {
        argument(1 <= a && a < b && b < c && c < d && d < e && e <= 1000);
        state(w.items.isEmpty() && w.records.isEmpty());
        save();
        int before = w.place[4];
        w.place = new int[] {a, b, c, d, e};
        return before;
    }

    int set(int what, int value) {
        argument(what >= 0 && what <= 6);
        int[][] range = {{1, 10}, {1, 100}, {1, 50}, {1, 100}, {1, 20}, {0, 20}, {0, 1000}};
        argument(value >= range[what][0] && value <= range[what][1]);
        save();
        int before = w.set[what];
        w.set[what] = value;
        return before;
    }

    int value(int what) {
        argument(what >= 0 && what <= 12);
        return what < 7 ? w.set[what] : what < 12 ? w.place[what - 7] : w.row;
    }

    boolean jam(boolean jammed) {
        save();
        boolean before = w.jammed;
        w.jammed = jammed;
        return before;
    }

    int start() {
        state(!w.running && w.alarm == 0);
        save();
        w.running = true;
        return w.items.size();
    }

    int stop() {
        state(w.running);
        save();
        w.running = false;
        return w.items.size();
    }

    int reset() {
        state(w.alarm != 0);
        save();
        int before = w.alarm;
        w.alarm = 0;
        return before;
    }

    int feed(int quality) {
        argument(quality >= 0 && quality <= 3);
        state(w.room());
        save();
        return w.enter(quality);
    }

    int slip(int item, int pulses) {
        Item i = onBelt(item);
        argument(pulses >= -30 && pulses <= 30);
        argument(i.position + pulses >= 0 && i.position + pulses < w.place[4]);
        save();
        i.position += pulses;
        return i.position;
    }

    int take(int item) {
        Item i = onBelt(item);
        save();
        w.items.remove(i);
        w.counter[7]++;
        return i.position;
    }

    int run(int ticks) {
        argument(ticks >= 0 && ticks <= 1000);
        save();
        for (int t = 0; t < ticks; t++) {
            w.tick();
        }
        return w.tick;
    }

    int status(int what) {
        argument(what >= 0 && what <= 7);
        int[] all = {w.tick, w.running ? 1 : 0, w.alarm, w.items.size(), w.records.size(), w.verdicts.size(),
            w.expected.size(), w.bin.size()};
        return all[what];
    }

    int item(int item, int what) {
        Item i = onBelt(item);
        argument(what >= 0 && what <= 2);
        return what == 0 ? i.position : what == 1 ? i.quality : i.label ? 1 : 0;
    }

    int record(int record, int what) {
        Rec r = inRegister(record);
        argument(what >= 0 && what <= 4);
        int[] all = {r.position, r.verdict, r.fault ? 1 : 0, r.passed ? 1 : 0, r.matched ? 1 : 0};
        return all[what];
    }

    int numberAt(int index, boolean records) {
        int size = records ? w.records.size() : w.items.size();
        if (index < 0 || index >= size) {
            throw new IndexOutOfBoundsException();
        }
        return records ? w.records.get(index).number : w.items.get(index).number;
    }

    int counter(int what) {
        argument(what >= 0 && what <= 17);
        return w.counter[what];
    }

    int reconcile(boolean items) {
        int[] c = w.counter;
        return items ? c[0] - c[8] - w.diverted - c[7] - w.items.size() : c[0] - c[1] - c[2] - c[3] - w.records.size();
    }

    double goodShare() {
        int all = w.counter[1] + w.counter[2] + w.counter[3];
        return all == 0 ? 0.0 : (double) w.counter[1] / all;
    }

    int spare(int speed) {
        argument(speed >= 1 && speed <= 10);
        int made = 0;
        for (int tick = 0; tick < w.set[1]; tick++) {
            made += tick == 0 ? speed - 1 : speed;
        }
        return w.place[3] - w.place[1] - made;
    }

    int fastest() {
        int best = -1;
        for (int speed = 1; speed <= 10; speed++) {
            best = spare(speed) > 0 ? speed : best;
        }
        return best;
    }

    int fate(int record) {
        inRegister(record);
        World trial = w.copy();
        trial.running = trial.alarm == 0;
        for (int t = 0; t < 1000; t++) {
            Rec before = trial.find(record);
            int[] c = trial.counter.clone();
            trial.tick();
            if (trial.find(record) == null) {
                // A record behind the gate can't be rejected any more, and one before it can't leave at the exit.
                if (!before.passed) {
                    return 2;
                }
                return before.matched ? 1 : trial.counter[3] > c[3] ? 3 : 1;
            }
        }
        return 0;
    }

    int append(int value) {
        argument(value >= 0 && value <= 127);
        state(text.length() < 80);
        text += (char) value;
        return text.length();
    }

    int clearText() {
        int before = text.length();
        text = "";
        return before;
    }

    int carryOut() {
        for (int i = 0; i < text.length(); i++) {
            if ("0123.:".indexOf(text.charAt(i)) < 0) {
                return -10 - i;
            }
        }
        World before = w.copy();
        for (int i = 0; i < text.length(); i++) {
            char c = text.charAt(i);
            if (c == '.' || c == ':') {
                for (int t = 0; t < (c == '.' ? 1 : 10); t++) {
                    w.tick();
                }
            } else if (w.room()) {
                w.enter(c - '0');
            } else {
                w = before;
                return -1000 - i;
            }
        }
        save(before);
        return text.length();
    }

    int undo() {
        state(!saved.isEmpty());
        w = saved.remove(saved.size() - 1);
        return saved.size();
    }

    long digest() {
        List<Integer> all = new ArrayList<>();
        all.add(text.length());
        for (int what = 0; what <= 12; what++) {
            all.add(value(what));
        }
        all.add(w.jammed ? 1 : 0);
        for (int what = 0; what <= 7; what++) {
            all.add(status(what));
        }
        for (int what = 0; what <= 17; what++) {
            all.add(counter(what));
        }
        for (Item i : w.items) {
            all.add(i.number);
            for (int what = 0; what <= 2; what++) {
                all.add(item(i.number, what));
            }
        }
        for (Rec r : w.records) {
            all.add(r.number);
            for (int what = 0; what <= 4; what++) {
                all.add(record(r.number, what));
            }
        }
        all.add(saved.size());
        long h = 2939;
        for (int v : all) {
            h = 31 * h + v;
        }
        return h;
    }
}
