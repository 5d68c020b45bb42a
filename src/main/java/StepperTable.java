import java.util.NoSuchElementException;

/**
 * A table with three axes that are driven by stepping motors.
 *
 * The face checks what a call may ask and leaves the work to the classes inside: Setup reads the
 * text, Table holds all that can be undone or saved and moves it, Plan works out speeds and times
 * of a row of targets, History keeps what can be undone. All rows are made with the object and
 * used again, so that no call makes objects of its own.
 */
public final class StepperTable {
    public static final int NO_ERROR = 0;
    public static final int SYNTAX = 1;
    public static final int OUT_OF_RANGE = 2;
    public static final int MISPLACED = 3;

    private static final int AXES = 3;
    private static final int MOST_TARGETS = 16;
    private static final int MOST_CHANGES = 10;
    private static final int MOST_START = 1000;
    private static final int MOST_JOG = 100;
    private static final int MOST_BYTES = 600;
    private static final int CALL_BYTES = 20;
    private static final int ROOT_ROUNDS = 60;
    private static final int START_STEP = 50;
    private static final int SECOND = 1000000;
    private static final int USUAL_LENGTH = 200;
    private static final int USUAL_BACKLASH = 0;
    private static final int USUAL_TOP = 1000;
    private static final int USUAL_ACCELERATION = 100;
    private static final int USUAL_SWITCH = 5;
    private static final int USUAL_HYSTERESIS = 2;
    private static final int USUAL_START = 100;
    private static final int FORWARD = 1;
    private static final int BACKWARD = -1;
    private static final int NOT_STUCK = 0;
    private static final int STUCK_CLOSED = 2;
    private static final int NO_ALARM = 0;
    private static final int ALARM_NEVER_CLOSED = 1;
    private static final int ALARM_NEVER_OPEN = 2;
    private static final int ALARM_LOST = 3;

    private final Bytes input = new Bytes();
    private final Setup setup = new Setup();
    private final Table table = new Table();
    private final Table saved = new Table();
    private final Table scratch = new Table();
    private final History history = new History();
    private final Plan plan = new Plan();
    private final Targets path = new Targets();
    private final Bytes output = new Bytes();
    private boolean hasSaved;

    /** What is inside begins as an empty text would leave it. */
    public StepperTable() {
    }

    // ---- setup ----

    public int appendInput(int a, int b, int c, int d, int e) {
        if (input.length > MOST_BYTES - CALL_BYTES) {
            return -1;
        }
        input.addWord(a);
        input.addWord(b);
        input.addWord(c);
        input.addWord(d);
        input.addWord(e);
        return input.length;
    }

    public boolean truncateInput(int length) {
        if (length < 0 || length > input.length) {
            return false;
        }
        input.length = length;
        return true;
    }

    public int loadTable() {
        setup.parse(input);
        input.length = 0;
        if (setup.code != NO_ERROR) {
            return -1;
        }
        table.setUp(setup);
        history.clear();
        output.length = 0;
        hasSaved = false;
        return table.x.length + table.y.length + table.z.length;
    }

    public int errorCode() {
        return setup.code;
    }

    public int errorOffset() {
        return setup.offset;
    }

    // ---- what is now ----

    public int count(int what) throws IllegalArgumentException {
        switch (what) {
            case 0:
                return table.start;
            case 1:
                return table.compensation ? 1 : 0;
            case 2:
                return table.detection ? 1 : 0;
            case 3:
                return table.alarm;
            case 4:
                return table.targets.size;
            case 5:
                return table.homedAxes();
            case 6:
                return history.size;
            default:
                throw new IllegalArgumentException("what is out of range");
        }
    }

    public int axis(int axis, int what) throws IndexOutOfBoundsException, IllegalArgumentException {
        checkAxis(axis);
        if (what < 0 || what > 12) {
            throw new IllegalArgumentException("what is out of range");
        }
        Axis asked = table.axisAt(axis);
        return what <= 5 ? asked.builtIn(what) : asked.property(what);
    }

    public int coordinate(int axis) throws IndexOutOfBoundsException, IllegalStateException {
        checkAxis(axis);
        checkHomed(axis);
        return table.axisAt(axis).coordinate;
    }

    public int error(int axis) throws IndexOutOfBoundsException, IllegalStateException {
        checkAxis(axis);
        checkHomed(axis);
        return table.axisAt(axis).errorNow();
    }

    public boolean readsClosed(int axis) throws IndexOutOfBoundsException {
        checkAxis(axis);
        return table.axisAt(axis).readsShut();
    }

    public long time() {
        return table.passed;
    }

    // ---- changes ----

    public int home(int axis) throws IndexOutOfBoundsException, IllegalStateException {
        checkAxis(axis);
        checkNoAlarm();
        checkQueueEmpty();
        history.remember(table);
        return table.homeAxis(axis);
    }

    public int jog(int axis, int steps)
            throws IndexOutOfBoundsException, IllegalArgumentException, IllegalStateException {
        checkAxis(axis);
        if (steps < -MOST_JOG || steps > MOST_JOG || steps == 0) {
            throw new IllegalArgumentException("steps is out of range");
        }
        checkQueueEmpty();
        history.remember(table);
        table.jogAxis(axis, steps);
        return table.axisAt(axis).truePosition;
    }

    public int queue(int x, int y, int z) throws IllegalArgumentException, IllegalStateException {
        checkPoint(x, y, z);
        checkRoom();
        path.copyFrom(table.targets);
        path.insertAt(path.size, x, y, z);
        return takePath();
    }

    public int unqueue() throws NoSuchElementException {
        if (table.targets.size == 0) {
            throw new NoSuchElementException("the queue is empty");
        }
        history.remember(table);
        table.targets.removeAt(table.targets.size - 1);
        return table.targets.size;
    }

    public int run(int moves) throws IllegalArgumentException, NoSuchElementException {
        if (moves < 1 || moves > MOST_TARGETS) {
            throw new IllegalArgumentException("moves is out of range");
        }
        if (moves > table.targets.size) {
            throw new NoSuchElementException("the queue holds fewer moves");
        }
        history.remember(table);
        return table.makeMoves(planned(), moves);
    }

    public int reset() {
        history.remember(table);
        int before = table.alarm;
        table.stopWith(NO_ALARM);
        return before;
    }

    public boolean setCompensation(boolean on) {
        history.remember(table);
        boolean before = table.compensation;
        table.compensation = on;
        return before;
    }

    public boolean setDetection(boolean on) {
        history.remember(table);
        boolean before = table.detection;
        table.detection = on;
        return before;
    }

    public int setStuck(int axis, int how) throws IndexOutOfBoundsException, IllegalArgumentException {
        checkAxis(axis);
        if (how < NOT_STUCK || how > STUCK_CLOSED) {
            throw new IllegalArgumentException("how is out of range");
        }
        history.remember(table);
        Axis changed = table.axisAt(axis);
        int before = changed.stuck;
        changed.stuck = how;
        return before;
    }

    public int setStart(int start) throws IllegalArgumentException {
        if (start < 1 || start > MOST_START) {
            throw new IllegalArgumentException("start is out of range");
        }
        history.remember(table);
        int before = table.start;
        table.start = start;
        return before;
    }

    public int homeAll() throws IllegalStateException {
        checkNoAlarm();
        checkQueueEmpty();
        history.remember(table);
        int steps = 0;
        for (int axis = AXES - 1; axis >= 0; axis--) {
            int made = table.homeAxis(axis);
            if (made < 0) {
                return -1;
            }
            steps += made;
        }
        return steps;
    }

    public int runAll() {
        history.remember(table);
        return table.makeMoves(planned(), table.targets.size);
    }

    public int insert(int move, int x, int y, int z) throws IllegalArgumentException, IllegalStateException {
        if (move < 0 || move > table.targets.size) {
            throw new IllegalArgumentException("move is out of range");
        }
        checkPoint(x, y, z);
        checkRoom();
        path.copyFrom(table.targets);
        path.insertAt(move, x, y, z);
        return takePath();
    }

    public int dropTarget(int move) throws IndexOutOfBoundsException, IllegalStateException {
        checkMove(move);
        path.copyFrom(table.targets);
        path.removeAt(move);
        return takePath();
    }

    public int swapTargets(int move, int other) throws IndexOutOfBoundsException, IllegalStateException {
        checkMove(move);
        checkMove(other);
        path.copyFrom(table.targets);
        path.exchange(move, other);
        takePath();
        return planned().straightCount();
    }

    // ---- the plan of the queue ----

    public int target(int move, int axis) throws IndexOutOfBoundsException {
        checkMove(move);
        checkAxis(axis);
        return table.targets.get(move, axis);
    }

    public int move(int move, int what) throws IndexOutOfBoundsException, IllegalArgumentException {
        checkMove(move);
        if (what < 0 || what > 7) {
            throw new IllegalArgumentException("what is out of range");
        }
        return planned().property(move, what);
    }

    public int speed(int move, int step) throws IndexOutOfBoundsException, NoSuchElementException {
        checkMove(move);
        Plan now = planned();
        if (step < 0 || step >= now.leadOf(move)) {
            throw new NoSuchElementException("the move has no such step");
        }
        return now.speedAt(move, step);
    }

    public int stepsBehind(int move, int axis, int steps)
            throws IndexOutOfBoundsException, IllegalArgumentException {
        checkMove(move);
        checkAxis(axis);
        Plan now = planned();
        checkSteps(now.leadOf(move), steps);
        return now.madeBehind(move, axis, steps);
    }

    public float deviation(int move) throws IndexOutOfBoundsException {
        checkMove(move);
        return planned().greatestDeviation(move);
    }

    public int pointAt(int move, int axis, int steps)
            throws IndexOutOfBoundsException, IllegalArgumentException {
        checkMove(move);
        checkAxis(axis);
        Plan now = planned();
        checkSteps(now.leadOf(move), steps);
        return now.pointBehind(move, axis, steps);
    }

    public int rampSteps(int move, boolean up) throws IndexOutOfBoundsException {
        checkMove(move);
        return planned().changingSteps(move, up);
    }

    public int slowest(int move) throws IndexOutOfBoundsException {
        checkMove(move);
        return planned().limitingAxis(table, move);
    }

    public int straightPairs() {
        return planned().straightCount();
    }

    public int bound(int axis, boolean greatest) throws IndexOutOfBoundsException, IllegalStateException {
        checkAxis(axis);
        checkHomed(axis);
        int found = table.axisAt(axis).coordinate;
        for (int move = 0; move < table.targets.size; move++) {
            int next = table.targets.get(move, axis);
            found = greatest ? Math.max(found, next) : Math.min(found, next);
        }
        return found;
    }

    public int nearest(int x, int y, int z) {
        return table.targets.nearestTo(x, y, z, 0);
    }

    public int nearestOrder(int index) throws NoSuchElementException {
        if (index < 0 || index >= table.targets.size) {
            throw new NoSuchElementException("there is no such place");
        }
        int taken = 0;
        int found = table.targets.nearestTo(table.x.coordinate, table.y.coordinate, table.z.coordinate, 0);
        for (int place = 0; place < index; place++) {
            taken |= 1 << found;
            found = table.targets.nearestTo(table.targets.get(found, 0), table.targets.get(found, 1),
                    table.targets.get(found, 2), taken);
        }
        return found;
    }

    public double lineLength(int move) throws IndexOutOfBoundsException {
        checkMove(move);
        return planned().lengthOf(move);
    }

    public double queueLength() {
        Plan now = planned();
        double sum = 0.0;
        for (int move = 0; move < now.size; move++) {
            sum = sum + now.lengthOf(move);
        }
        return sum;
    }

    public double meanSpeed(int move) throws IndexOutOfBoundsException {
        checkMove(move);
        Plan now = planned();
        long way = (long) SECOND * now.leadOf(move);
        return ratio((double) way, (double) now.stepsTime(move));
    }

    public int travel(int axis) throws IndexOutOfBoundsException {
        checkAxis(axis);
        Plan now = planned();
        int sum = 0;
        for (int move = 0; move < now.size; move++) {
            sum += Math.abs(now.distance(move, axis));
        }
        return sum;
    }

    public int turnsAhead(int axis) throws IndexOutOfBoundsException {
        checkAxis(axis);
        Plan now = planned();
        int turning = 0;
        for (int move = 0; move < now.size; move++) {
            turning += now.turns(move, axis) ? 1 : 0;
        }
        return turning;
    }

    // ---- forecasts ----

    public long lastsUntil(int move) throws IndexOutOfBoundsException {
        checkMove(move);
        return planned().timeUntil(move);
    }

    public int whereAt(int axis, int time)
            throws IndexOutOfBoundsException, IllegalArgumentException, IllegalStateException {
        checkAxis(axis);
        if (time < 0) {
            throw new IllegalArgumentException("time is negative");
        }
        checkHomed(axis);
        Plan now = planned();
        long left = time;
        for (int move = 0; move < now.size; move++) {
            long lasts = now.compensationTime(move) + now.stepsTime(move);
            if (lasts > left) {
                int steps = now.stepsWithin(move, left - now.compensationTime(move));
                return now.pointBehind(move, axis, steps);
            }
            left -= lasts;
        }
        return table.endOf(table.targets, axis);
    }

    public int trueBehind(int axis) throws IndexOutOfBoundsException {
        checkAxis(axis);
        return forecast().axisAt(axis).truePosition;
    }

    public long queueTime() {
        return planned().wholeTime();
    }

    public long straightTime(int x, int y, int z) throws IllegalArgumentException, IllegalStateException {
        checkPoint(x, y, z);
        checkAllHomed();
        path.clear();
        path.insertAt(0, x, y, z);
        if (table.leadsNowhere(path)) {
            return 0;
        }
        plan.make(table, path, table.start);
        return plan.wholeTime();
    }

    public int wouldLose() {
        int before = table.lostSteps();
        return forecast().lostSteps() - before;
    }

    public int wouldErr(int axis) throws IndexOutOfBoundsException, IllegalStateException {
        checkAxis(axis);
        checkHomed(axis);
        return forecast().axisAt(axis).errorNow();
    }

    public int wouldHome(int axis) throws IndexOutOfBoundsException {
        checkAxis(axis);
        scratch.copyFrom(table);
        return scratch.homeAxis(axis);
    }

    public int bestFirst() {
        int best = -1;
        long least = 0;
        for (int move = 0; move < table.targets.size; move++) {
            table.arrange(path, move);
            plan.make(table, path, table.start);
            long lasts = plan.wholeTime();
            if (best < 0 || lasts < least) {
                best = move;
                least = lasts;
            }
        }
        return best;
    }

    public int bestStart() throws NoSuchElementException {
        if (table.targets.size == 0) {
            throw new NoSuchElementException("the queue is empty");
        }
        int best = 0;
        long least = 0;
        for (int start = START_STEP; start <= MOST_START; start += START_STEP) {
            plan.make(table, table.targets, start);
            long lasts = plan.wholeTime();
            if (best == 0 || lasts < least) {
                best = start;
                least = lasts;
            }
        }
        return best;
    }

    public int slackLeft(int axis, boolean forward) throws IndexOutOfBoundsException {
        checkAxis(axis);
        return table.axisAt(axis).stepsToMove(forward);
    }

    // ---- accounts ----

    public int account(int axis, int what) throws IndexOutOfBoundsException, IllegalArgumentException {
        checkAxis(axis);
        if (what < 0 || what > 5) {
            throw new IllegalArgumentException("what is out of range");
        }
        return table.axisAt(axis).account.number(what);
    }

    public double meanDuration() {
        if (table.moveSteps == 0) {
            return 0.0;
        }
        return ratio((double) table.moveStepsTime, (double) table.moveSteps);
    }

    public float lostShare(int axis) throws IndexOutOfBoundsException {
        checkAxis(axis);
        Account account = table.axisAt(axis).account;
        int steps = account.forward + account.backward;
        if (steps == 0) {
            return 0.0f;
        }
        return (float) account.lost / (float) steps;
    }

    // ---- output ----

    public int printQueue() {
        Targets targets = table.targets;
        output.length = 0;
        if (targets.size == 0) {
            output.addByte('.');
        }
        for (int move = 0; move < targets.size; move++) {
            if (move > 0) {
                output.addByte(' ');
            }
            output.addNumber(targets.get(move, 0));
            output.addByte(',');
            output.addNumber(targets.get(move, 1));
            output.addByte(',');
            output.addNumber(targets.get(move, 2));
        }
        return output.length;
    }

    public int outputByte(int index) {
        return output.byteAt(index);
    }

    // ---- undoing and saving ----

    public int undo() {
        if (history.size == 0) {
            return -1;
        }
        history.takeBack(table);
        return history.size;
    }

    public int saveState() {
        saved.copyFrom(table);
        hasSaved = true;
        return table.targets.size;
    }

    public int restoreState() throws IllegalStateException {
        if (!hasSaved) {
            throw new IllegalStateException("no state is saved");
        }
        table.copyFrom(saved);
        history.clear();
        return table.targets.size;
    }

    // ---- what the calls share ----

    private void checkAxis(int axis) {
        if (axis < 0 || axis >= AXES) {
            throw new IndexOutOfBoundsException("there is no such axis");
        }
    }

    private void checkMove(int move) {
        if (move < 0 || move >= table.targets.size) {
            throw new IndexOutOfBoundsException("there is no such move");
        }
    }

    private void checkHomed(int axis) {
        if (!table.axisAt(axis).homed) {
            throw new IllegalStateException("the axis is not homed");
        }
    }

    private void checkAllHomed() {
        if (table.homedAxes() < AXES) {
            throw new IllegalStateException("an axis is not homed");
        }
    }

    private void checkNoAlarm() {
        if (table.alarm != NO_ALARM) {
            throw new IllegalStateException("there is an alarm");
        }
    }

    private void checkQueueEmpty() {
        if (table.targets.size > 0) {
            throw new IllegalStateException("the queue is not empty");
        }
    }

    private void checkPoint(int x, int y, int z) {
        if (!table.x.reaches(x) || !table.y.reaches(y) || !table.z.reaches(z)) {
            throw new IllegalArgumentException("a coordinate is out of range");
        }
    }

    private void checkRoom() {
        checkNoAlarm();
        checkAllHomed();
        if (table.targets.size >= MOST_TARGETS) {
            throw new IllegalStateException("the queue is full");
        }
    }

    private void checkSteps(int lead, int steps) {
        if (steps < 0 || steps > lead) {
            throw new IllegalArgumentException("steps is out of range");
        }
    }

    /** Makes the path the queue, unless a move would lead nowhere then; answers the moves in it. */
    private int takePath() {
        if (table.leadsNowhere(path)) {
            throw new IllegalStateException("a move would lead nowhere");
        }
        history.remember(table);
        table.targets.copyFrom(path);
        return table.targets.size;
    }

    private Plan planned() {
        plan.make(table, table.targets, table.start);
        return plan;
    }

    /** A copy of the table on which the whole queue was run, detection being off. */
    private Table forecast() {
        scratch.copyFrom(table);
        scratch.detection = false;
        scratch.makeMoves(planned(), table.targets.size);
        return scratch;
    }

    // An index or a divisor that does not fit answers 0, so that the machine never throws.

    private static int entry(int[] row, int index) {
        return index >= 0 && index < row.length ? row[index] : 0;
    }

    private static void enter(int[] row, int index, int value) {
        if (index >= 0 && index < row.length) {
            row[index] = value;
        }
    }

    private static int quotient(int dividend, int divisor) {
        return divisor == 0 ? 0 : dividend / divisor;
    }

    private static double ratio(double dividend, double divisor) {
        return divisor > 0.0 ? dividend / divisor : 0.0;
    }

    /** A row of bytes: the setup text, or what was printed last. */
    private static final class Bytes {
        final byte[] row = new byte[MOST_BYTES];
        int length;

        void addByte(int value) {
            if (length >= 0 && length < row.length) {
                row[length] = (byte) value;
                length++;
            }
        }

        /** Adds four bytes, the most significant one first. */
        void addWord(int word) {
            addByte(word >>> 24);
            addByte(word >>> 16);
            addByte(word >>> 8);
            addByte(word);
        }

        /** Adds the digits of a number of 0 to 9999. */
        void addNumber(int number) {
            for (int unit = 1000; unit >= 1; unit /= 10) {
                if (number >= unit || unit == 1) {
                    addByte('0' + quotient(number, unit) % 10);
                }
            }
        }

        /** The byte as 0 to 255; -1 if there is none. */
        int byteAt(int index) {
            return index >= 0 && index < length && index < row.length ? row[index] & 255 : -1;
        }
    }

    /** What a setup text says: it is read from left to right, up to the first error. */
    private static final class Setup {
        static final int NUMBERS = 6;
        static final int BEGIN = 3;
        static final int START = 4;
        static final int COMPENSATE = 5;
        static final int DETECT = 6;
        static final int STATEMENTS = 7;
        static final int SWITCH_POSITION = 4;
        static final int[] LEAST = {1, 0, 1, 1, 0, 0};
        static final int[] GREATEST = {2000, 20, 5000, 500, 2000, 20};

        final int[] numbers = new int[AXES * NUMBERS];
        final int[] begins = new int[AXES];
        int start;
        int seen;
        int code = NO_ERROR;
        int offset = -1;
        private int place;

        int number(int axis, int slot) {
            return entry(numbers, axis * NUMBERS + slot);
        }

        boolean hasSeen(int statement) {
            return (seen >> statement & 1) == 1;
        }

        void parse(Bytes text) {
            forget();
            for (int n = 0; n < MOST_BYTES && code == NO_ERROR && findToken(text); n++) {
                readStatement(text);
            }
        }

        private void forget() {
            for (int axis = 0; axis < AXES; axis++) {
                enter(begins, axis, 0);
                keep(axis, 0, USUAL_LENGTH);
                keep(axis, 1, USUAL_BACKLASH);
                keep(axis, 2, USUAL_TOP);
                keep(axis, 3, USUAL_ACCELERATION);
                keep(axis, SWITCH_POSITION, USUAL_SWITCH);
                keep(axis, 5, USUAL_HYSTERESIS);
            }
            start = USUAL_START;
            seen = 0;
            code = NO_ERROR;
            offset = -1;
            place = 0;
        }

        /** Goes on to the next token; answers whether there is one. */
        private boolean findToken(Bytes text) {
            while (place < text.length && isBlank(text.byteAt(place))) {
                place++;
            }
            return place < text.length;
        }

        private void readStatement(Bytes text) {
            int from = place;
            int statement = readWord(text);
            if (statement < 0) {
                fail(SYNTAX, from);
                return;
            }
            if (hasSeen(statement) || statement < AXES && hasSeen(BEGIN)) {
                fail(MISPLACED, from);
                return;
            }
            seen |= 1 << statement;
            int required = numbersOf(statement);
            for (int slot = 0; slot < required && code == NO_ERROR; slot++) {
                readNumber(text, statement, slot);
            }
            if (code == NO_ERROR) {
                readSemicolon(text);
            }
        }

        /** Answers the number of the statement that the word begins, -1 if there is none. */
        private int readWord(Bytes text) {
            int from = place;
            while (place < text.length && isLetter(text.byteAt(place))) {
                place++;
            }
            for (int statement = 0; statement < STATEMENTS; statement++) {
                if (isWord(text, from, place, wordOf(statement))) {
                    return statement;
                }
            }
            return -1;
        }

        private void readNumber(Bytes text, int statement, int slot) {
            findToken(text);
            int from = place;
            int value = 0;
            while (place < text.length && isDigit(text.byteAt(place))) {
                value = value * 10 + (text.byteAt(place) - '0');
                place++;
            }
            int digits = place - from;
            if (digits < 1 || digits > 4) {
                fail(SYNTAX, from);
            } else if (value < least(statement, slot) || value > greatest(statement, slot)) {
                fail(OUT_OF_RANGE, from);
            } else {
                keep(statement, slot, value);
            }
        }

        private void readSemicolon(Bytes text) {
            findToken(text);
            if (text.byteAt(place) == ';') {
                place++;
            } else {
                fail(SYNTAX, place);
            }
        }

        private int least(int statement, int slot) {
            if (statement == START) {
                return 1;
            }
            return statement == BEGIN ? 0 : entry(LEAST, slot);
        }

        private int greatest(int statement, int slot) {
            if (statement == START) {
                return MOST_START;
            }
            if (statement == BEGIN) {
                return number(slot, 0);
            }
            return slot == SWITCH_POSITION ? number(statement, 0) : entry(GREATEST, slot);
        }

        private void keep(int statement, int slot, int value) {
            if (statement == START) {
                start = value;
            } else if (statement == BEGIN) {
                enter(begins, slot, value);
            } else {
                enter(numbers, statement * NUMBERS + slot, value);
            }
        }

        private void fail(int error, int from) {
            code = error;
            offset = from;
        }

        private static int numbersOf(int statement) {
            if (statement < AXES) {
                return NUMBERS;
            }
            if (statement == BEGIN) {
                return AXES;
            }
            return statement == START ? 1 : 0;
        }

        private static String wordOf(int statement) {
            switch (statement) {
                case 0:
                    return "x";
                case 1:
                    return "y";
                case 2:
                    return "z";
                case BEGIN:
                    return "begin";
                case START:
                    return "start";
                case COMPENSATE:
                    return "compensate";
                default:
                    return "detect";
            }
        }

        private static boolean isWord(Bytes text, int from, int end, String word) {
            if (end - from != word.length()) {
                return false;
            }
            for (int i = 0; i < word.length(); i++) {
                if (text.byteAt(from + i) != word.charAt(i)) {
                    return false;
                }
            }
            return true;
        }

        private static boolean isBlank(int value) {
            return value == ' ' || value == '\n';
        }

        private static boolean isLetter(int value) {
            return value >= 'a' && value <= 'z';
        }

        private static boolean isDigit(int value) {
            return value >= '0' && value <= '9';
        }
    }

    /** What the motor of an axis has done since the load. */
    private static final class Account {
        int forward;
        int backward;
        int lost;
        int compensations;
        int homings;
        int failures;
        int reversals;

        void clear() {
            forward = 0;
            backward = 0;
            lost = 0;
            compensations = 0;
            homings = 0;
            failures = 0;
            reversals = 0;
        }

        void copyFrom(Account other) {
            forward = other.forward;
            backward = other.backward;
            lost = other.lost;
            compensations = other.compensations;
            homings = other.homings;
            failures = other.failures;
            reversals = other.reversals;
        }

        int number(int what) {
            switch (what) {
                case 0:
                    return forward;
                case 1:
                    return backward;
                case 2:
                    return compensations;
                case 3:
                    return homings;
                case 4:
                    return failures;
                default:
                    return reversals;
            }
        }
    }

    /** An axis: its motor, its table between the end stops, and its switch. */
    private static final class Axis {
        int length = USUAL_LENGTH;
        int backlash = USUAL_BACKLASH;
        int top = USUAL_TOP;
        int acceleration = USUAL_ACCELERATION;
        int switchPosition = USUAL_SWITCH;
        int hysteresis = USUAL_HYSTERESIS;
        int truePosition;
        int slack;
        int direction = FORWARD;
        int stuck = NOT_STUCK;
        boolean closed = true;
        boolean homed;
        int coordinate;
        int zero;
        final Account account = new Account();

        void setUp(Setup setup, int axis) {
            length = setup.number(axis, 0);
            backlash = setup.number(axis, 1);
            top = setup.number(axis, 2);
            acceleration = setup.number(axis, 3);
            switchPosition = setup.number(axis, 4);
            hysteresis = setup.number(axis, 5);
            truePosition = entry(setup.begins, axis);
            slack = 0;
            direction = FORWARD;
            stuck = NOT_STUCK;
            closed = truePosition <= switchPosition;
            homed = false;
            coordinate = 0;
            zero = 0;
            account.clear();
        }

        void copyFrom(Axis other) {
            length = other.length;
            backlash = other.backlash;
            top = other.top;
            acceleration = other.acceleration;
            switchPosition = other.switchPosition;
            hysteresis = other.hysteresis;
            truePosition = other.truePosition;
            slack = other.slack;
            direction = other.direction;
            stuck = other.stuck;
            closed = other.closed;
            homed = other.homed;
            coordinate = other.coordinate;
            zero = other.zero;
            account.copyFrom(other.account);
        }

        int builtIn(int what) {
            switch (what) {
                case 0:
                    return length;
                case 1:
                    return backlash;
                case 2:
                    return top;
                case 3:
                    return acceleration;
                case 4:
                    return switchPosition;
                default:
                    return hysteresis;
            }
        }

        int property(int what) {
            switch (what) {
                case 6:
                    return truePosition;
                case 7:
                    return slack;
                case 8:
                    return account.forward - account.backward;
                case 9:
                    return account.lost;
                case 10:
                    return stuck;
                case 11:
                    return homed ? 1 : 0;
                default:
                    return direction;
            }
        }

        int errorNow() {
            return truePosition - zero - coordinate;
        }

        boolean reaches(int wanted) {
            return wanted >= 0 && wanted <= length;
        }

        boolean readsShut() {
            return stuck == NOT_STUCK ? closed : stuck == STUCK_CLOSED;
        }

        boolean turnsFor(int distance) {
            return distance > 0 && direction == BACKWARD || distance < 0 && direction == FORWARD;
        }

        /** Makes one step; answers false if it is lost. */
        boolean makeStep(int way) {
            direction = way;
            boolean kept = way == FORWARD ? pushForward() : pushBackward();
            if (!kept) {
                account.lost++;
            }
            if (truePosition <= switchPosition) {
                closed = true;
            } else if (truePosition > switchPosition + hysteresis) {
                closed = false;
            }
            return kept;
        }

        private boolean pushForward() {
            account.forward++;
            if (slack < backlash) {
                slack++;
                return true;
            }
            if (truePosition < length) {
                truePosition++;
                return true;
            }
            return false;
        }

        private boolean pushBackward() {
            account.backward++;
            if (slack > 0) {
                slack--;
                return true;
            }
            if (truePosition > 0) {
                truePosition--;
                return true;
            }
            return false;
        }

        /** Steps until the switch reads as wanted, or no more may be made; answers the steps. */
        int seek(boolean shut) {
            int most = length + backlash + 1;
            int steps = 0;
            while (steps < most && readsShut() != shut) {
                makeStep(shut ? BACKWARD : FORWARD);
                steps++;
            }
            return steps;
        }

        void zeroHere() {
            homed = true;
            coordinate = 0;
            zero = truePosition;
        }

        int stepsToMove(boolean forward) {
            if (forward) {
                return truePosition < length ? backlash - slack + 1 : -1;
            }
            return truePosition > 0 ? slack + 1 : -1;
        }
    }

    /** A row of targets, each with three coordinates. */
    private static final class Targets {
        final int[] row = new int[MOST_TARGETS * AXES];
        int size;

        void clear() {
            size = 0;
        }

        void copyFrom(Targets other) {
            size = other.size;
            for (int i = 0; i < size * AXES; i++) {
                enter(row, i, entry(other.row, i));
            }
        }

        int get(int move, int axis) {
            return entry(row, move * AXES + axis);
        }

        void set(int move, int axis, int coordinate) {
            enter(row, move * AXES + axis, coordinate);
        }

        void insertAt(int place, int x, int y, int z) {
            if (size >= MOST_TARGETS) {
                return;
            }
            for (int move = size; move > place; move--) {
                copyTarget(move - 1, move);
            }
            set(place, 0, x);
            set(place, 1, y);
            set(place, 2, z);
            size++;
        }

        void removeAt(int place) {
            for (int move = place + 1; move < size; move++) {
                copyTarget(move, move - 1);
            }
            size = Math.max(size - 1, 0);
        }

        void removeFirst(int number) {
            for (int move = number; move < size; move++) {
                copyTarget(move, move - number);
            }
            size = Math.max(size - number, 0);
        }

        void exchange(int move, int other) {
            for (int axis = 0; axis < AXES; axis++) {
                int kept = get(move, axis);
                set(move, axis, get(other, axis));
                set(other, axis, kept);
            }
        }

        private void copyTarget(int from, int to) {
            for (int axis = 0; axis < AXES; axis++) {
                set(to, axis, get(from, axis));
            }
        }

        /** The nearest target whose bit is not taken, -1 if there is none. */
        int nearestTo(int x, int y, int z, int taken) {
            int best = -1;
            long least = 0;
            for (int move = 0; move < size; move++) {
                long lead = Math.max(gap(get(move, 0), x), Math.max(gap(get(move, 1), y), gap(get(move, 2), z)));
                if ((taken >> move & 1) == 0 && (best < 0 || lead < least)) {
                    best = move;
                    least = lead;
                }
            }
            return best;
        }

        private static long gap(long a, long b) {
            return Math.abs(a - b);
        }
    }

    /** All that can be undone or saved: the axes, the queue, the settings, the alarm and the means. */
    private static final class Table {
        final Axis x = new Axis();
        final Axis y = new Axis();
        final Axis z = new Axis();
        final Targets targets = new Targets();
        int start = USUAL_START;
        boolean compensation;
        boolean detection;
        int alarm;
        long passed;
        long moveStepsTime;
        long moveSteps;

        void setUp(Setup setup) {
            x.setUp(setup, 0);
            y.setUp(setup, 1);
            z.setUp(setup, 2);
            targets.clear();
            start = setup.start;
            compensation = setup.hasSeen(Setup.COMPENSATE);
            detection = setup.hasSeen(Setup.DETECT);
            alarm = NO_ALARM;
            passed = 0;
            moveStepsTime = 0;
            moveSteps = 0;
        }

        void copyFrom(Table other) {
            x.copyFrom(other.x);
            y.copyFrom(other.y);
            z.copyFrom(other.z);
            targets.copyFrom(other.targets);
            start = other.start;
            compensation = other.compensation;
            detection = other.detection;
            alarm = other.alarm;
            passed = other.passed;
            moveStepsTime = other.moveStepsTime;
            moveSteps = other.moveSteps;
        }

        Axis axisAt(int axis) {
            if (axis == 0) {
                return x;
            }
            return axis == 1 ? y : z;
        }

        int homedAxes() {
            return (x.homed ? 1 : 0) + (y.homed ? 1 : 0) + (z.homed ? 1 : 0);
        }

        int lostSteps() {
            return x.account.lost + y.account.lost + z.account.lost;
        }

        /** Where an axis should be behind a row of targets. */
        int endOf(Targets row, int axis) {
            return row.size > 0 ? row.get(row.size - 1, axis) : axisAt(axis).coordinate;
        }

        boolean leadsNowhere(Targets row) {
            boolean found = false;
            for (int move = 0; move < row.size; move++) {
                boolean same = true;
                for (int axis = 0; axis < AXES; axis++) {
                    int from = move > 0 ? row.get(move - 1, axis) : axisAt(axis).coordinate;
                    same = same && from == row.get(move, axis);
                }
                found = found || same;
            }
            return found;
        }

        /** Makes the row hold the queue with one target put ahead, without moves that lead nowhere. */
        void arrange(Targets row, int first) {
            row.clear();
            addUnlessThere(row, first);
            for (int move = 0; move < targets.size; move++) {
                if (move != first) {
                    addUnlessThere(row, move);
                }
            }
        }

        private void addUnlessThere(Targets row, int move) {
            boolean same = true;
            for (int axis = 0; axis < AXES; axis++) {
                same = same && endOf(row, axis) == targets.get(move, axis);
            }
            if (!same) {
                row.insertAt(row.size, targets.get(move, 0), targets.get(move, 1), targets.get(move, 2));
            }
        }

        int slowStepTime() {
            return quotient(SECOND, start);
        }

        /** Ends with this alarm, or with none: nothing is queued and no axis is homed then. */
        void stopWith(int reason) {
            alarm = reason;
            targets.clear();
            x.homed = false;
            y.homed = false;
            z.homed = false;
        }

        /** Homes an axis; answers the steps, -1 if that ends in an alarm. */
        int homeAxis(int number) {
            Axis axis = axisAt(number);
            int back = axis.seek(true);
            passed += (long) back * slowStepTime();
            if (!axis.readsShut()) {
                return failHoming(axis, ALARM_NEVER_CLOSED);
            }
            int ahead = axis.seek(false);
            passed += 4L * ahead * slowStepTime();
            if (axis.readsShut()) {
                return failHoming(axis, ALARM_NEVER_OPEN);
            }
            axis.zeroHere();
            axis.account.homings++;
            return back + ahead;
        }

        private int failHoming(Axis axis, int reason) {
            alarm = reason;
            axis.homed = false;
            axis.account.failures++;
            return -1;
        }

        void jogAxis(int number, int steps) {
            Axis axis = axisAt(number);
            int most = Math.abs(steps);
            for (int step = 0; step < most; step++) {
                axis.makeStep(steps > 0 ? FORWARD : BACKWARD);
            }
            passed += (long) most * slowStepTime();
            axis.homed = false;
        }

        /** Makes the first moves of the plan of the queue; answers how many came to their end. */
        int makeMoves(Plan plan, int moves) {
            int made = 0;
            while (made < moves && makeMove(plan, made)) {
                made++;
            }
            targets.removeFirst(made);
            if (made < moves) {
                stopWith(ALARM_LOST);
            }
            return made;
        }

        /** Answers false if a lost step stops the move. */
        private boolean makeMove(Plan plan, int move) {
            countReversals(plan, move);
            if (compensation && !compensate(plan, move)) {
                return false;
            }
            int lead = plan.leadOf(move);
            for (int step = 0; step < lead; step++) {
                int lasts = plan.stepTime(move, step);
                passed += lasts;
                moveStepsTime += lasts;
                moveSteps++;
                if (!stepAxes(plan, move, step)) {
                    return false;
                }
            }
            for (int axis = 0; axis < AXES; axis++) {
                axisAt(axis).coordinate += plan.distance(move, axis);
            }
            return true;
        }

        private void countReversals(Plan plan, int move) {
            for (int axis = 0; axis < AXES; axis++) {
                Axis turning = axisAt(axis);
                turning.account.reversals += turning.turnsFor(plan.distance(move, axis)) ? 1 : 0;
            }
        }

        private boolean compensate(Plan plan, int move) {
            boolean goesOn = true;
            for (int axis = 0; axis < AXES && goesOn; axis++) {
                Axis turning = axisAt(axis);
                int steps = turning.turnsFor(plan.distance(move, axis)) ? turning.backlash : 0;
                for (int step = 0; step < steps && goesOn; step++) {
                    passed += slowStepTime();
                    turning.account.compensations++;
                    goesOn = turning.makeStep(plan.wayOf(move, axis)) || !detection;
                }
            }
            return goesOn;
        }

        private boolean stepAxes(Plan plan, int move, int step) {
            boolean goesOn = true;
            for (int axis = 0; axis < AXES && goesOn; axis++) {
                if (plan.madeBehind(move, axis, step + 1) > plan.madeBehind(move, axis, step)) {
                    goesOn = axisAt(axis).makeStep(plan.wayOf(move, axis)) || !detection;
                }
            }
            return goesOn;
        }
    }

    /** The plan of a row of targets that begins where the axes of a table are. */
    private static final class Plan {
        final int[] begins = new int[MOST_TARGETS * AXES];
        final int[] distances = new int[MOST_TARGETS * AXES];
        final int[] turnings = new int[MOST_TARGETS * AXES];
        final int[] leads = new int[MOST_TARGETS];
        final int[] cruises = new int[MOST_TARGETS];
        final int[] gains = new int[MOST_TARGETS];
        final int[] straights = new int[MOST_TARGETS];
        final int[] compensations = new int[MOST_TARGETS];
        final int[] speeds = new int[MOST_TARGETS + 1];
        int size;
        int start;

        void make(Table table, Targets row, int setting) {
            size = row.size;
            start = setting;
            for (int axis = 0; axis < AXES; axis++) {
                measure(table.axisAt(axis), row, axis);
            }
            for (int move = 0; move < size; move++) {
                rate(table, move);
            }
            enter(speeds, 0, Math.min(start, entry(cruises, 0)));
            for (int move = 0; move < size; move++) {
                link(move);
            }
            smooth();
        }

        private void measure(Axis moved, Targets row, int axis) {
            int from = moved.coordinate;
            int latest = moved.direction;
            for (int move = 0; move < size; move++) {
                int distance = row.get(move, axis) - from;
                int way = directionOf(distance, latest);
                int place = move * AXES + axis;
                enter(begins, place, from);
                enter(distances, place, distance);
                enter(turnings, place, way == latest ? 0 : 1);
                from = row.get(move, axis);
                latest = way;
            }
        }

        private static int directionOf(int distance, int latest) {
            if (distance == 0) {
                return latest;
            }
            return distance > 0 ? FORWARD : BACKWARD;
        }

        private void rate(Table table, int move) {
            int lead = 0;
            for (int axis = 0; axis < AXES; axis++) {
                lead = Math.max(lead, Math.abs(distance(move, axis)));
            }
            int cruise = Integer.MAX_VALUE;
            int gain = Integer.MAX_VALUE;
            int steps = 0;
            for (int axis = 0; axis < AXES; axis++) {
                int way = Math.abs(distance(move, axis));
                Axis moved = table.axisAt(axis);
                if (way > 0) {
                    cruise = Math.min(cruise, quotient(moved.top * lead, way));
                    gain = Math.min(gain, quotient(moved.acceleration * lead, way));
                    steps += turns(move, axis) ? moved.backlash : 0;
                }
            }
            enter(leads, move, lead);
            enter(cruises, move, cruise);
            enter(gains, move, gain);
            enter(compensations, move, table.compensation ? steps : 0);
        }

        /** Finds the most that the speed behind a move may be, for its own sake and the next one's. */
        private void link(int move) {
            boolean straight = goesStraight(move);
            int most = entry(cruises, move);
            if (move + 1 < size) {
                most = Math.min(most, entry(cruises, move + 1));
            }
            enter(straights, move, straight ? 1 : 0);
            enter(speeds, move + 1, straight ? most : Math.min(most, start));
        }

        private boolean goesStraight(int move) {
            boolean straight = move + 1 < size;
            for (int axis = 0; axis < AXES; axis++) {
                straight = straight
                        && distance(move, axis) * leadOf(move + 1) == distance(move + 1, axis) * leadOf(move);
            }
            return straight;
        }

        private void smooth() {
            for (int move = size - 1; move >= 0; move--) {
                int most = speedBehind(move) + reach(move);
                enter(speeds, move, Math.min(speedAhead(move), most));
            }
            for (int move = 0; move < size; move++) {
                int most = speedAhead(move) + reach(move);
                enter(speeds, move + 1, Math.min(speedBehind(move), most));
            }
        }

        private int reach(int move) {
            return entry(gains, move) * entry(leads, move);
        }

        int speedAhead(int move) {
            return entry(speeds, move);
        }

        int speedBehind(int move) {
            return entry(speeds, move + 1);
        }

        int leadOf(int move) {
            return entry(leads, move);
        }

        int distance(int move, int axis) {
            return entry(distances, move * AXES + axis);
        }

        int wayOf(int move, int axis) {
            return entry(distances, move * AXES + axis) < 0 ? BACKWARD : FORWARD;
        }

        boolean turns(int move, int axis) {
            return entry(turnings, move * AXES + axis) == 1;
        }

        int property(int move, int what) {
            switch (what) {
                case 0:
                    return leadOf(move);
                case 1:
                    return entry(cruises, move);
                case 2:
                    return entry(gains, move);
                case 3:
                    return speedAhead(move);
                case 4:
                    return speedBehind(move);
                case 5:
                    return greatestSpeed(move);
                case 6:
                    return greatestSteps(move);
                default:
                    return entry(straights, move);
            }
        }

        int speedAt(int move, int step) {
            int gain = entry(gains, move);
            int up = entry(speeds, move) + gain * step;
            int down = entry(speeds, move + 1) + gain * (entry(leads, move) - 1 - step);
            return Math.min(entry(cruises, move), Math.min(up, down));
        }

        int stepTime(int move, int step) {
            return quotient(SECOND, speedAt(move, step));
        }

        private int greatestSpeed(int move) {
            int greatest = 0;
            for (int step = 0; step < leadOf(move); step++) {
                greatest = Math.max(greatest, speedAt(move, step));
            }
            return greatest;
        }

        private int greatestSteps(int move) {
            int greatest = greatestSpeed(move);
            int steps = 0;
            for (int step = 0; step < leadOf(move); step++) {
                steps += speedAt(move, step) == greatest ? 1 : 0;
            }
            return steps;
        }

        int changingSteps(int move, boolean up) {
            int steps = 0;
            for (int step = 1; step < leadOf(move); step++) {
                int change = speedAt(move, step) - speedAt(move, step - 1);
                steps += (up ? change > 0 : change < 0) ? 1 : 0;
            }
            return steps;
        }

        int limitingAxis(Table table, int move) {
            int found = -1;
            int least = 0;
            for (int axis = 0; axis < AXES; axis++) {
                int way = Math.abs(distance(move, axis));
                int limit = quotient(table.axisAt(axis).top * leadOf(move), way);
                if (way > 0 && (found < 0 || limit < least)) {
                    found = axis;
                    least = limit;
                }
            }
            return found;
        }

        int straightCount() {
            int found = 0;
            for (int move = 0; move < size; move++) {
                found += entry(straights, move);
            }
            return found;
        }

        int madeBehind(int move, int axis, int steps) {
            int lead = entry(leads, move);
            int way = Math.abs(entry(distances, move * AXES + axis));
            return quotient(2 * steps * way + lead, 2 * lead);
        }

        int pointBehind(int move, int axis, int steps) {
            return entry(begins, move * AXES + axis) + wayOf(move, axis) * madeBehind(move, axis, steps);
        }

        float greatestDeviation(int move) {
            float greatest = 0.0f;
            for (int axis = 0; axis < AXES; axis++) {
                for (int steps = 0; steps <= leadOf(move); steps++) {
                    float off = offLine(move, axis, steps);
                    greatest = off > greatest ? off : greatest;
                }
            }
            return greatest;
        }

        private float offLine(int move, int axis, int steps) {
            int lead = leadOf(move);
            if (lead == 0) {
                return 0.0f;
            }
            float line = (float) (steps * Math.abs(distance(move, axis))) / (float) lead;
            float off = (float) madeBehind(move, axis, steps) - line;
            return off < 0.0f ? -off : off;
        }

        double lengthOf(int move) {
            int squares = 0;
            for (int axis = 0; axis < AXES; axis++) {
                squares += distance(move, axis) * distance(move, axis);
            }
            double v = (double) squares;
            double root = v;
            for (int round = 0; round < ROOT_ROUNDS && root > 0.0; round++) {
                root = (root + v / root) / 2.0;
            }
            return root;
        }

        /** How many steps of a move have ended within a time behind its compensation. */
        int stepsWithin(int move, long time) {
            long left = time;
            int steps = 0;
            while (steps < leadOf(move) && stepTime(move, steps) <= left) {
                left -= stepTime(move, steps);
                steps++;
            }
            return steps;
        }

        long compensationTime(int move) {
            return (long) entry(compensations, move) * quotient(SECOND, start);
        }

        /** The steps between the two ramps all go at the cruise: they are not looked at one by one. */
        long stepsTime(int move) {
            int cruise = entry(cruises, move);
            int lead = leadOf(move);
            long sum = 0;
            int from = 0;
            while (from < lead && speedAt(move, from) < cruise) {
                sum += stepTime(move, from);
                from++;
            }
            int end = lead;
            while (end > from && speedAt(move, end - 1) < cruise) {
                end--;
                sum += stepTime(move, end);
            }
            return sum + (long) (end - from) * quotient(SECOND, cruise);
        }

        long timeUntil(int last) {
            long sum = 0;
            for (int move = 0; move <= last && move < size; move++) {
                sum += compensationTime(move) + stepsTime(move);
            }
            return sum;
        }

        long wholeTime() {
            return timeUntil(size - 1);
        }
    }

    /** The tables ahead of the latest changes, in a ring. */
    private static final class History {
        final Table[] ring = new Table[MOST_CHANGES];
        int size;
        private int next;

        History() {
            for (int i = 0; i < ring.length; i++) {
                ring[i] = new Table();
            }
        }

        void clear() {
            size = 0;
        }

        void remember(Table table) {
            Table kept = slot(next);
            if (kept != null) {
                kept.copyFrom(table);
                next = (next + 1) % MOST_CHANGES;
                size = Math.min(size + 1, MOST_CHANGES);
            }
        }

        void takeBack(Table table) {
            int latest = (next + MOST_CHANGES - 1) % MOST_CHANGES;
            Table kept = slot(latest);
            if (kept != null && size > 0) {
                table.copyFrom(kept);
                next = latest;
                size--;
            }
        }

        private Table slot(int place) {
            return place >= 0 && place < ring.length ? ring[place] : null;
        }
    }
}
