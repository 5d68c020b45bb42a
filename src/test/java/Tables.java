/** Tables that tests begin with. */
final class Tables {
    /** Ten steps of homing per axis at most: backlash 3, 1 and 0, and places that differ. */
    static final String SMALL = "x 100 3 1000 100 5 2; y 50 1 500 50 2 2; z 20 0 250 40 5 2; begin 8 0 4; start 100;";

    /** No backlash; each axis, homed, has its zero at 1, gains 100 a step and goes at most at 1000. */
    static final String QUICK = "x 100 0 1000 100 0 0; y 100 0 1000 100 0 0; z 100 0 1000 100 0 0;";

    private Tables() {
    }

    /** Puts a text into the input buffer, which must be empty, in twenties of bytes. */
    static void write(StepperTable table, String text) {
        for (int at = 0; at < text.length(); at += 20) {
            table.appendInput(word(text, at), word(text, at + 4), word(text, at + 8), word(text, at + 12),
                    word(text, at + 16));
        }
        table.truncateInput(text.length());
    }

    private static int word(String text, int at) {
        int word = 0;
        for (int i = at; i < at + 4; i++) {
            word = word << 8 | (i < text.length() ? text.charAt(i) & 255 : 32);
        }
        return word;
    }

    static int load(StepperTable table, String text) {
        write(table, text);
        return table.loadTable();
    }

    static StepperTable loaded(String text) {
        StepperTable table = new StepperTable();
        if (load(table, text) < 0) {
            throw new IllegalStateException("bad setup text in a test: " + text);
        }
        return table;
    }

    static StepperTable homed(String text) {
        StepperTable table = loaded(text);
        if (table.homeAll() < 0) {
            throw new IllegalStateException("a test's table does not home: " + text);
        }
        return table;
    }

    static StepperTable small() {
        return homed(SMALL);
    }

    /** Homed, with two moves that go on straight: to 10, 5, 0 and to 20, 10, 0. */
    static StepperTable smallWithQueue() {
        StepperTable t = small();
        t.queue(10, 5, 0);
        t.queue(20, 10, 0);
        return t;
    }

    /** A table with an alarm 1, axis y being stuck open. */
    static StepperTable alarmed() {
        StepperTable t = small();
        t.setStuck(1, 1);
        t.home(1);
        return t;
    }

    /** Homed with 16 targets. */
    static StepperTable full() {
        StepperTable t = small();
        for (int i = 1; i <= 16; i++) {
            t.queue(i, 0, 0);
        }
        return t;
    }

    /** Compensation is off and the axis x, homed at 8, would run into its end stop at 100. */
    static StepperTable losing() {
        StepperTable t = small();
        t.queue(95, 0, 0);
        return t;
    }

    static StepperTable quick() {
        return homed(QUICK);
    }

    /** True position, slack and lost steps of an axis. */
    static String place(StepperTable table, int axis) {
        return table.axis(axis, 6) + " " + table.axis(axis, 7) + " " + table.axis(axis, 9);
    }

    /** All that questions tell of the present: in at most 150 calls, without the output. */
    static String snapshot(StepperTable table) {
        StringBuilder all = new StringBuilder();
        for (int what = 0; what <= 6; what++) {
            all.append(table.count(what)).append(' ');
        }
        all.append("time ").append(table.time()).append(" mean ").append(table.meanDuration());
        for (int axis = 0; axis < 3; axis++) {
            all.append("\naxis");
            for (int what = 0; what <= 12; what++) {
                all.append(' ').append(table.axis(axis, what));
            }
            all.append(table.readsClosed(axis) ? " closed" : " open").append(" account");
            for (int what = 0; what <= 5; what++) {
                all.append(' ').append(table.account(axis, what));
            }
            if (table.axis(axis, 11) == 1) {
                all.append(" at ").append(table.coordinate(axis)).append(' ').append(table.error(axis));
            }
        }
        for (int move = 0; move < table.count(4); move++) {
            all.append('\n').append(target(table, move));
        }
        return all.toString();
    }

    static String target(StepperTable table, int move) {
        return table.target(move, 0) + "," + table.target(move, 1) + "," + table.target(move, 2);
    }

    static String output(StepperTable table) {
        StringBuilder all = new StringBuilder();
        for (int i = 0; table.outputByte(i) >= 0; i++) {
            all.append((char) table.outputByte(i));
        }
        return all.toString();
    }
}
