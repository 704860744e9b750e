import java.util.NoSuchElementException;

/**
 * A simulator of a labeling and reject station on a conveyor belt.
 * This class checks the calls, keeps the feed text and saves states; the belt itself is a State.
 */
public final class LabelStation {
    public static final int NONE = -1;

    // The settings, by their numbers in set().
    private static final int SPEED = 0;
    private static final int CAMERA_DELAY = 1;
    private static final int BIN_DELAY = 2;
    private static final int CONFIRMATION_TIME = 3;
    private static final int REJECT_LIMIT = 4;
    private static final int TOLERANCE = 5;
    private static final int LABELS = 6;
    private static final int[] LEAST_SETTING = {1, 1, 1, 1, 1, 0, 0};
    private static final int[] MOST_SETTING = {10, 100, 50, 100, 20, 20, 1000};

    // The places, in the order of setPlaces().
    private static final int LABELER = 0;
    private static final int CAMERA = 1;
    private static final int SECOND = 2;
    private static final int GATE = 3;
    private static final int EXIT = 4;
    private static final int FARTHEST_EXIT = 1000;

    // The highest numbers that the queries take.
    private static final int LAST_VALUE = 12;
    private static final int LAST_STATUS = 7;
    private static final int LAST_COUNTER = 17;
    private static final int LAST_OF_ITEM = 2;
    private static final int LAST_OF_RECORD = 4;

    // The counters. LEFT_PASSED, REJECTED and LEFT_MISSING are what fate() answers, too.
    private static final int FED = 0;
    private static final int LEFT_PASSED = 1;
    private static final int REJECTED = 2;
    private static final int LEFT_MISSING = 3;
    private static final int LATE = 4;
    private static final int WASTED = 5;
    private static final int CONFIRMED = 6;
    private static final int TAKEN = 7;
    private static final int LEFT_AT_EXIT = 8;
    private static final int ESCAPED = 9;
    private static final int CAUSE_LABEL_FAULT = 10;
    private static final int CAUSE_FAIL = 11;
    private static final int CAUSE_NOT_READ = 12;
    private static final int CAUSE_NO_VERDICT = 13;
    private static final int BEFORE_ALARMS = 13;

    private static final int TOO_MANY_REJECTS = 1;
    private static final int NOT_CONFIRMED = 2;
    private static final int NOT_EXPECTED = 3;
    private static final int NO_PASSED_RECORD = 4;

    private static final int NO_VERDICT = 0;
    private static final int PASS = 1;
    private static final int FAIL = 2;
    private static final int NOT_READ = 3;

    private static final int GOOD = 0;
    private static final int HARD_TO_READ = 2;
    private static final int UNREADABLE = 3;

    // Columns of items and of records; the one behind NUMBER is what = 0 of item() and record().
    private static final int NUMBER = 0;
    private static final int POSITION = 1;
    private static final int QUALITY = 2;
    private static final int LABEL = 3;
    private static final int ITEM_WIDTH = 4;
    private static final int VERDICT = 2;
    private static final int LABEL_FAULT = 3;
    private static final int PASSED = 4;
    private static final int MATCHED = 5;
    private static final int RECORD_WIDTH = 6;

    // Columns of what comes later: verdicts, items for the bin, expectations.
    private static final int TICK = 0;
    private static final int TIMER_WIDTH = 1;
    private static final int OF_RECORD = 1;
    private static final int FROM_SECOND = 2;
    private static final int RESULT = 3;
    private static final int VERDICT_WIDTH = 4;

    private static final int MOST_ITEMS = 20;
    private static final int FEED_GAP = 30;
    // Records in the register are FEED_GAP apart, and leave at 1021 at the latest.
    private static final int MOST_RECORDS = 35;
    // For that gap, at most one record passes a place in a tick of at most 10 pulses: so there are no more
    // verdicts than two cameras take in 100 ticks, no more items on their way than a gate diverts in 50 ticks,
    // no more expectations than are opened in the 101 ticks from their opening to their last tick.
    private static final int MOST_VERDICTS = 200;
    private static final int MOST_ON_THEIR_WAY = 50;
    private static final int MOST_EXPECTATIONS = 101;

    private static final int MOST_TEXT = 80;
    private static final int LAST_BYTE = 127;
    private static final int MOST_SLIP = 30;
    private static final int MOST_TICKS = 1000;
    private static final int MOST_SAVED = 4;

    private final State state = new State();
    private final State trial = new State();
    private final History history = new History();
    private final byte[] text = new byte[MOST_TEXT];
    private int textLength = 0;

    public LabelStation() {
    }

    // ---- settings

    public int setPlaces(int labeler, int camera, int second, int gate, int exit)
            throws IllegalArgumentException, IllegalStateException {
        boolean inOrder = labeler < camera && camera < second && second < gate && gate < exit;
        if (!inOrder || labeler < 1 || exit > FARTHEST_EXIT) {
            throw new IllegalArgumentException("the places are not in order or out of range");
        }
        if (state.items.count() > 0 || state.records.count() > 0) {
            throw new IllegalStateException("there is an item or a record");
        }
        history.save(state);
        int previous = state.place(EXIT);
        state.putPlace(LABELER, labeler);
        state.putPlace(CAMERA, camera);
        state.putPlace(SECOND, second);
        state.putPlace(GATE, gate);
        state.putPlace(EXIT, exit);
        return previous;
    }

    public int set(int what, int value) throws IllegalArgumentException {
        if (what < SPEED || what > LABELS) {
            throw new IllegalArgumentException("there is no such setting");
        }
        if (value < least(what) || value > most(what)) {
            throw new IllegalArgumentException("the value is out of range");
        }
        history.save(state);
        int previous = state.setting(what);
        state.putSetting(what, value);
        return previous;
    }

    private static int least(int setting) {
        return setting >= 0 && setting < LEAST_SETTING.length ? LEAST_SETTING[setting] : 0;
    }

    private static int most(int setting) {
        return setting >= 0 && setting < MOST_SETTING.length ? MOST_SETTING[setting] : 0;
    }

    public int value(int what) throws IllegalArgumentException {
        if (what < 0 || what > LAST_VALUE) {
            throw new IllegalArgumentException("there is no such value");
        }
        return state.valueOf(what);
    }

    public boolean jam(boolean jammed) {
        history.save(state);
        boolean previous = state.jammed;
        state.jammed = jammed;
        return previous;
    }

    // ---- belt

    public int start() throws IllegalStateException {
        if (state.running || state.alarm != 0) {
            throw new IllegalStateException("the belt is running, or there is an alarm");
        }
        history.save(state);
        state.running = true;
        return state.items.count();
    }

    public int stop() throws IllegalStateException {
        if (!state.running) {
            throw new IllegalStateException("the belt is not running");
        }
        history.save(state);
        state.running = false;
        return state.items.count();
    }

    public int reset() throws IllegalStateException {
        if (state.alarm == 0) {
            throw new IllegalStateException("there is no alarm");
        }
        history.save(state);
        int previous = state.alarm;
        state.alarm = 0;
        return previous;
    }

    public int feed(int quality) throws IllegalArgumentException, IllegalStateException {
        if (quality < GOOD || quality > UNREADABLE) {
            throw new IllegalArgumentException("the quality is out of range");
        }
        if (!state.hasRoom()) {
            throw new IllegalStateException("there is no room at the beginning of the belt");
        }
        history.save(state);
        return state.enter(quality);
    }

    public int slip(int item, int pulses) throws NoSuchElementException, IllegalArgumentException {
        int row = state.items.find(item);
        if (row == NONE) {
            throw new NoSuchElementException("there is no such item on the belt");
        }
        if (pulses < -MOST_SLIP || pulses > MOST_SLIP) {
            throw new IllegalArgumentException("pulses is out of range");
        }
        int position = state.items.get(row, POSITION) + pulses;
        if (position < 0 || position >= state.place(EXIT)) {
            throw new IllegalArgumentException("the new position is not on the belt");
        }
        history.save(state);
        state.items.put(row, POSITION, position);
        return position;
    }

    public int take(int item) throws NoSuchElementException {
        int row = state.items.find(item);
        if (row == NONE) {
            throw new NoSuchElementException("there is no such item on the belt");
        }
        history.save(state);
        int position = state.items.get(row, POSITION);
        state.items.removeRow(row);
        state.count(TAKEN);
        return position;
    }

    public int run(int ticks) throws IllegalArgumentException {
        if (ticks < 0 || ticks > MOST_TICKS) {
            throw new IllegalArgumentException("ticks is out of range");
        }
        history.save(state);
        for (int passed = 0; passed < ticks; passed++) {
            state.passTick();
        }
        return state.tick;
    }

    // ---- what there is

    public int status(int what) throws IllegalArgumentException {
        if (what < 0 || what > LAST_STATUS) {
            throw new IllegalArgumentException("there is no such status");
        }
        return state.statusOf(what);
    }

    public int item(int item, int what) throws NoSuchElementException, IllegalArgumentException {
        int row = state.items.find(item);
        if (row == NONE) {
            throw new NoSuchElementException("there is no such item on the belt");
        }
        if (what < 0 || what > LAST_OF_ITEM) {
            throw new IllegalArgumentException("what is out of range");
        }
        return state.items.get(row, POSITION + what);
    }

    public int record(int record, int what) throws NoSuchElementException, IllegalArgumentException {
        int row = state.records.find(record);
        if (row == NONE) {
            throw new NoSuchElementException("there is no such record in the register");
        }
        if (what < 0 || what > LAST_OF_RECORD) {
            throw new IllegalArgumentException("what is out of range");
        }
        return state.records.get(row, POSITION + what);
    }

    public int numberAt(int index, boolean records) throws IndexOutOfBoundsException {
        Table table = records ? state.records : state.items;
        if (index < 0 || index >= table.count()) {
            throw new IndexOutOfBoundsException("there is no such index");
        }
        return table.get(index, NUMBER);
    }

    public int counter(int what) throws IllegalArgumentException {
        if (what < 0 || what > LAST_COUNTER) {
            throw new IllegalArgumentException("there is no such counter");
        }
        return state.counted(what);
    }

    public int reconcile(boolean items) {
        if (items) {
            int gone = state.counted(LEFT_AT_EXIT) + state.diverted + state.counted(TAKEN);
            return state.counted(FED) - gone - state.items.count();
        }
        return state.counted(FED) - recordsThatLeft() - state.records.count();
    }

    public double goodShare() {
        int all = recordsThatLeft();
        return all == 0 ? 0.0 : (double) state.counted(LEFT_PASSED) / (double) all;
    }

    private int recordsThatLeft() {
        return state.counted(LEFT_PASSED) + state.counted(REJECTED) + state.counted(LEFT_MISSING);
    }

    // ---- predictions

    public int spare(int speed) throws IllegalArgumentException {
        if (speed < least(SPEED) || speed > most(SPEED)) {
            throw new IllegalArgumentException("the speed is out of range");
        }
        return sparePulses(speed);
    }

    public int fastest() {
        for (int speed = most(SPEED); speed >= least(SPEED); speed--) {
            if (sparePulses(speed) > 0) {
                return speed;
            }
        }
        return NONE;
    }

    private int sparePulses(int speed) {
        // The verdict comes before the pulses of its tick; of the first tick, the pulse of the camera is over.
        int pulsesUntilVerdict = state.setting(CAMERA_DELAY) * speed - 1;
        return state.place(GATE) - state.place(CAMERA) - pulsesUntilVerdict;
    }

    public int fate(int record) throws NoSuchElementException {
        if (state.records.find(record) == NONE) {
            throw new NoSuchElementException("there is no such record in the register");
        }
        trial.copyFrom(state);
        trial.watch(record);
        trial.running = trial.alarm == 0;
        // A belt that has stopped stays so when only ticks pass, and the record stays in the register.
        for (int passed = 0; passed < MOST_TICKS && trial.running && trial.outcome == 0; passed++) {
            trial.passTick();
        }
        return trial.outcome;
    }

    // ---- text

    public int append(int value) throws IllegalArgumentException, IllegalStateException {
        if (value < 0 || value > LAST_BYTE) {
            throw new IllegalArgumentException("the value is no byte of a text");
        }
        if (textLength < 0 || textLength >= text.length) {
            throw new IllegalStateException("the text is full");
        }
        text[textLength] = (byte) value;
        textLength++;
        return textLength;
    }

    public int clearText() {
        int previous = textLength;
        textLength = 0;
        return previous;
    }

    public int carryOut() {
        int error = syntaxError();
        if (error != NONE) {
            return -10 - error;
        }
        history.prepare(state);
        for (int index = 0; index < textLength; index++) {
            int command = byteAt(index);
            int ticks = ticksOf(command);
            for (int passed = 0; passed < ticks; passed++) {
                state.passTick();
            }
            if (ticks == 0) {
                if (!state.hasRoom()) {
                    history.bringBackPrepared(state);
                    return -1000 - index;
                }
                state.enter(command - '0');
            }
        }
        history.keepPrepared();
        return textLength;
    }

    private int syntaxError() {
        for (int index = 0; index < textLength; index++) {
            int command = byteAt(index);
            boolean feeds = command >= '0' && command <= '3';
            if (!feeds && ticksOf(command) == 0) {
                return index;
            }
        }
        return NONE;
    }

    private static int ticksOf(int command) {
        if (command == '.') {
            return 1;
        }
        return command == ':' ? 10 : 0;
    }

    private int byteAt(int index) {
        return index >= 0 && index < text.length ? text[index] : NONE;
    }

    // ---- state

    public int undo() throws IllegalStateException {
        if (history.count() == 0) {
            throw new IllegalStateException("there is no saved state");
        }
        history.bringBackLatest(state);
        return history.count();
    }

    public long digest() {
        long hash = 31L * 2939L + textLength;
        for (int what = 0; what <= LAST_VALUE; what++) {
            hash = 31L * hash + state.valueOf(what);
        }
        hash = 31L * hash + (state.jammed ? 1 : 0);
        for (int what = 0; what <= LAST_STATUS; what++) {
            hash = 31L * hash + state.statusOf(what);
        }
        for (int what = 0; what <= LAST_COUNTER; what++) {
            hash = 31L * hash + state.counted(what);
        }
        hash = state.items.mixInto(hash);
        hash = state.records.mixInto(hash);
        return 31L * hash + history.count();
    }

    /** Rows of numbers, in the order in which they were added. The room is made once. */
    private static final class Table {
        private final int width;
        private final int room;
        private final int[] cells;
        private int rows = 0;

        Table(int width, int room) {
            this.width = Math.max(1, width);
            this.room = Math.max(1, room);
            cells = new int[this.width * this.room];
        }

        void copyFrom(Table other) {
            if (cells.length == other.cells.length) {
                System.arraycopy(other.cells, 0, cells, 0, cells.length);
                rows = other.rows;
            }
        }

        int count() {
            return rows;
        }

        int get(int row, int column) {
            int at = row * width + column;
            return at >= 0 && at < cells.length ? cells[at] : 0;
        }

        void put(int row, int column, int value) {
            int at = row * width + column;
            if (at >= 0 && at < cells.length) {
                cells[at] = value;
            }
        }

        /** Adds a row of zeros behind the first cell, and tells where; NONE if it is full. */
        int addRow(int first) {
            if (rows >= room) {
                return NONE;
            }
            int row = rows;
            rows++;
            put(row, 0, first);
            for (int column = 1; column < width; column++) {
                put(row, column, 0);
            }
            return row;
        }

        void removeRow(int row) {
            if (row < 0 || row >= rows) {
                return;
            }
            rows--;
            for (int at = row * width; at < rows * width && at + width < cells.length; at++) {
                cells[at] = cells[at + width];
            }
        }

        void removeRowsOf(int first) {
            for (int row = rows - 1; row >= 0; row--) {
                if (get(row, 0) == first) {
                    removeRow(row);
                }
            }
        }

        int find(int first) {
            for (int row = 0; row < rows; row++) {
                if (get(row, 0) == first) {
                    return row;
                }
            }
            return NONE;
        }

        boolean hasBelow(int column, int bound) {
            for (int row = 0; row < rows; row++) {
                if (get(row, column) < bound) {
                    return true;
                }
            }
            return false;
        }

        void increase(int column) {
            for (int row = 0; row < rows; row++) {
                put(row, column, get(row, column) + 1);
            }
        }

        long mixInto(long hash) {
            long mixed = hash;
            for (int row = 0; row < rows; row++) {
                for (int column = 0; column < width; column++) {
                    mixed = 31L * mixed + get(row, column);
                }
            }
            return mixed;
        }
    }

    /** Everything but the feed text and the saved states: the belt, and how it goes on when a tick passes. */
    private static final class State {
        private final int[] settings = {5, 8, 4, 10, 5, 10, 50};
        private final int[] places = {100, 200, 260, 400, 500};
        private final int[] counters = new int[LAST_COUNTER + 1];
        private final Table items = new Table(ITEM_WIDTH, MOST_ITEMS);
        private final Table records = new Table(RECORD_WIDTH, MOST_RECORDS);
        private final Table verdicts = new Table(VERDICT_WIDTH, MOST_VERDICTS);
        private final Table binArrivals = new Table(TIMER_WIDTH, MOST_ON_THEIR_WAY);
        private final Table expectations = new Table(TIMER_WIDTH, MOST_EXPECTATIONS);
        private int tick = 0;
        private boolean running = false;
        private int alarm = 0;
        private boolean jammed = false;
        private int consecutiveRejects = 0;
        private int diverted = 0;
        private int watched = NONE;
        private int outcome = 0;

        State() {
        }

        void copyFrom(State other) {
            System.arraycopy(other.settings, 0, settings, 0, Math.min(other.settings.length, settings.length));
            System.arraycopy(other.places, 0, places, 0, Math.min(other.places.length, places.length));
            System.arraycopy(other.counters, 0, counters, 0, Math.min(other.counters.length, counters.length));
            items.copyFrom(other.items);
            records.copyFrom(other.records);
            verdicts.copyFrom(other.verdicts);
            binArrivals.copyFrom(other.binArrivals);
            expectations.copyFrom(other.expectations);
            tick = other.tick;
            running = other.running;
            alarm = other.alarm;
            jammed = other.jammed;
            consecutiveRejects = other.consecutiveRejects;
            diverted = other.diverted;
        }

        /** From now on, outcome tells how this record has left the register; 0 until then. */
        void watch(int number) {
            watched = number;
            outcome = 0;
        }

        int setting(int what) {
            return what >= 0 && what < settings.length ? settings[what] : 0;
        }

        void putSetting(int what, int value) {
            if (what >= 0 && what < settings.length) {
                settings[what] = value;
            }
        }

        int place(int which) {
            return which >= 0 && which < places.length ? places[which] : 0;
        }

        void putPlace(int which, int position) {
            if (which >= 0 && which < places.length) {
                places[which] = position;
            }
        }

        int counted(int what) {
            return what >= 0 && what < counters.length ? counters[what] : 0;
        }

        void count(int what) {
            if (what >= 0 && what < counters.length) {
                counters[what]++;
            }
        }

        int valueOf(int what) {
            if (what == LAST_VALUE) {
                return consecutiveRejects;
            }
            return what < settings.length ? setting(what) : place(what - settings.length);
        }

        int statusOf(int what) {
            switch (what) {
                case 0: return tick;
                case 1: return running ? 1 : 0;
                case 2: return alarm;
                case 3: return items.count();
                case 4: return records.count();
                case 5: return verdicts.count();
                case 6: return expectations.count();
                default: return binArrivals.count();
            }
        }

        boolean hasRoom() {
            return items.count() < MOST_ITEMS
                    && !items.hasBelow(POSITION, FEED_GAP)
                    && !records.hasBelow(POSITION, FEED_GAP);
        }

        /** An item and its record enter at position 0; their number is how many were fed before. */
        int enter(int quality) {
            int number = counted(FED);
            count(FED);
            int item = items.addRow(number);
            items.put(item, QUALITY, quality);
            records.addRow(number);
            return number;
        }

        void passTick() {
            tick++;
            deliverVerdicts();
            fillBin();
            closeOverdueExpectations();
            int pulses = setting(SPEED);
            for (int made = 0; made < pulses && running; made++) {
                pulse();
            }
        }

        private void raise(int kind) {
            count(BEFORE_ALARMS + kind);
            if (alarm == 0) {
                alarm = kind;
                running = false;
            }
        }

        private void deliverVerdicts() {
            for (int row = 0; row < verdicts.count(); row++) {
                if (verdicts.get(row, TICK) == tick) {
                    deliver(row);
                }
            }
            verdicts.removeRowsOf(tick);
        }

        private void deliver(int row) {
            int record = records.find(verdicts.get(row, OF_RECORD));
            if (record == NONE || records.get(record, PASSED) == 1) {
                count(LATE);
                return;
            }
            int result = verdicts.get(row, RESULT);
            int before = records.get(record, VERDICT);
            if (verdicts.get(row, FROM_SECOND) == 0) {
                if (before == NO_VERDICT) {
                    records.put(record, VERDICT, result);
                }
            } else if (before == NO_VERDICT || before == NOT_READ) {
                records.put(record, VERDICT, result == NOT_READ ? FAIL : result);
            }
        }

        private void fillBin() {
            for (int row = 0; row < binArrivals.count(); row++) {
                if (binArrivals.get(row, TICK) == tick) {
                    confirmOldest();
                }
            }
            binArrivals.removeRowsOf(tick);
        }

        private void confirmOldest() {
            if (expectations.count() == 0) {
                raise(NOT_EXPECTED);
                return;
            }
            expectations.removeRow(0);
            count(CONFIRMED);
        }

        private void closeOverdueExpectations() {
            for (int row = expectations.count() - 1; row >= 0; row--) {
                if (expectations.get(row, TICK) < tick) {
                    expectations.removeRow(row);
                    raise(NOT_CONFIRMED);
                }
            }
        }

        private void pulse() {
            items.increase(POSITION);
            records.increase(POSITION);
            int record = 0;
            for (int left = records.count(); left > 0; left--) {
                if (staysInRegister(record)) {
                    record++;
                }
            }
            int item = 0;
            for (int left = items.count(); left > 0; left--) {
                if (items.get(item, POSITION) == place(EXIT)) {
                    leaveBelt(item);
                } else {
                    item++;
                }
            }
        }

        /** Lets act what is at the place of the record; answers whether it is in the register afterwards. */
        private boolean staysInRegister(int record) {
            int position = records.get(record, POSITION);
            if (position == place(LABELER)) {
                labelerActs(record);
            } else if (position == place(CAMERA)) {
                cameraActs(record, false);
            } else if (position == place(SECOND)) {
                if (records.get(record, VERDICT) == NOT_READ) {
                    cameraActs(record, true);
                }
            } else if (position == place(GATE)) {
                if (!mayPass(record)) {
                    reject(record);
                    return false;
                }
                pass(record);
            } else if (position > place(EXIT) + setting(TOLERANCE)) {
                leaveRegister(record, records.get(record, MATCHED) == 1 ? LEFT_PASSED : LEFT_MISSING);
                return false;
            }
            return true;
        }

        private void labelerActs(int record) {
            if (jammed || setting(LABELS) == 0) {
                records.put(record, LABEL_FAULT, 1);
                return;
            }
            putSetting(LABELS, setting(LABELS) - 1);
            int item = itemAt(LABELER);
            if (item == NONE) {
                count(WASTED);
            } else {
                items.put(item, LABEL, 1);
            }
        }

        private void cameraActs(int record, boolean second) {
            int verdict = verdicts.addRow(tick + setting(CAMERA_DELAY));
            verdicts.put(verdict, OF_RECORD, records.get(record, NUMBER));
            verdicts.put(verdict, FROM_SECOND, second ? 1 : 0);
            verdicts.put(verdict, RESULT, seen(itemAt(second ? SECOND : CAMERA), second));
        }

        private int seen(int item, boolean second) {
            if (item == NONE || items.get(item, LABEL) == 0) {
                return FAIL;
            }
            switch (items.get(item, QUALITY)) {
                case GOOD: return PASS;
                case HARD_TO_READ: return second ? PASS : NOT_READ;
                case UNREADABLE: return NOT_READ;
                default: return FAIL;
            }
        }

        private boolean mayPass(int record) {
            return records.get(record, VERDICT) == PASS && records.get(record, LABEL_FAULT) == 0;
        }

        private void pass(int record) {
            records.put(record, PASSED, 1);
            consecutiveRejects = 0;
        }

        private void reject(int record) {
            count(causeOf(record));
            leaveRegister(record, REJECTED);
            int item = itemAt(GATE);
            if (item != NONE) {
                items.removeRow(item);
                binArrivals.addRow(tick + setting(BIN_DELAY));
                diverted++;
            }
            expectations.addRow(tick + setting(CONFIRMATION_TIME));
            consecutiveRejects++;
            if (consecutiveRejects >= setting(REJECT_LIMIT)) {
                raise(TOO_MANY_REJECTS);
                consecutiveRejects = 0;
            }
        }

        private int causeOf(int record) {
            if (records.get(record, LABEL_FAULT) == 1) {
                return CAUSE_LABEL_FAULT;
            }
            switch (records.get(record, VERDICT)) {
                case FAIL: return CAUSE_FAIL;
                case NOT_READ: return CAUSE_NOT_READ;
                default: return CAUSE_NO_VERDICT;
            }
        }

        private void leaveRegister(int record, int how) {
            if (records.get(record, NUMBER) == watched) {
                outcome = how;
            }
            count(how);
            records.removeRow(record);
        }

        private void leaveBelt(int item) {
            items.removeRow(item);
            count(LEFT_AT_EXIT);
            int record = recordForExit();
            if (record == NONE) {
                count(ESCAPED);
                raise(NO_PASSED_RECORD);
            } else {
                records.put(record, MATCHED, 1);
            }
        }

        /** Of two equally near items, the first one found has the lower number; it is so for records, too. */
        private int itemAt(int which) {
            int where = place(which);
            int nearest = NONE;
            int nearestGap = setting(TOLERANCE) + 1;
            for (int item = 0; item < items.count(); item++) {
                int gap = Math.abs(items.get(item, POSITION) - where);
                if (gap < nearestGap) {
                    nearest = item;
                    nearestGap = gap;
                }
            }
            return nearest;
        }

        private int recordForExit() {
            int where = place(EXIT);
            int nearest = NONE;
            int nearestGap = setting(TOLERANCE) + 1;
            for (int record = 0; record < records.count(); record++) {
                int gap = Math.abs(records.get(record, POSITION) - where);
                boolean open = records.get(record, PASSED) == 1 && records.get(record, MATCHED) == 0;
                if (open && gap < nearestGap) {
                    nearest = record;
                    nearestGap = gap;
                }
            }
            return nearest;
        }
    }

    /** The saved states, in a ring with one slot more, so that a state can be written before it counts. */
    private static final class History {
        private final State[] slots = new State[MOST_SAVED + 1];
        private int oldest = 0;
        private int saved = 0;

        History() {
            for (int slot = 0; slot < slots.length; slot++) {
                slots[slot] = new State();
            }
        }

        int count() {
            return saved;
        }

        void save(State present) {
            prepare(present);
            keepPrepared();
        }

        void prepare(State present) {
            State free = slotAt(saved);
            if (free != null) {
                free.copyFrom(present);
            }
        }

        void keepPrepared() {
            if (saved < MOST_SAVED) {
                saved++;
            } else {
                oldest = (oldest + 1) % (MOST_SAVED + 1);
            }
        }

        void bringBackPrepared(State present) {
            State free = slotAt(saved);
            if (free != null) {
                present.copyFrom(free);
            }
        }

        void bringBackLatest(State present) {
            if (saved > 0) {
                saved--;
                bringBackPrepared(present);
            }
        }

        /** The state at this place of the order, the oldest one at 0. */
        private State slotAt(int order) {
            int slot = (oldest + order) % (MOST_SAVED + 1);
            return slot >= 0 && slot < slots.length ? slots[slot] : null;
        }
    }
}
