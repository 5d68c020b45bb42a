/** Tables that tests begin with. */
final class Tables {
    /** Ten steps of homing per axis at most: backlash 3, 1 and 0, and places that differ. */
    static final String SMALL = "x 100 3 1000 100 5 2; y 50 1 500 50 2 2; z 20 0 250 40 5 2; begin 8 0 4; start 100;";

    private Tables() {
    }

    /** Puts a text into the input buffer, which must be empty, in twenties of bytes. */
    static void write(StepperTable table, String text) {
        for (int at = 0; at < text.length(); at += 20) {
            table.appendInput(word(text, at), word(text, at + 4), word(text, at + 8), word(text, at + 12),
                    word(text, at + 16));
        }
        table.truncateInput(text.length());
    }

    private static int word(String text, int at) {
        int word = 0;
        for (int i = at; i < at + 4; i++) {
            word = word << 8 | (i < text.length() ? text.charAt(i) & 255 : 32);
        }
        return word;
    }

    static int load(StepperTable table, String text) {
        write(table, text);
        return table.loadTable();
    }

    static StepperTable loaded(String text) {
        StepperTable table = new StepperTable();
        if (load(table, text) < 0) {
            throw new IllegalStateException("bad setup text in a test: " + text);
        }
        return table;
    }

    static StepperTable homed(String text) {
        StepperTable table = loaded(text);
        if (table.homeAll() < 0) {
            throw new IllegalStateException("a test's table does not home: " + text);
        }
        return table;
    }

    static String output(StepperTable table) {
        StringBuilder all = new StringBuilder();
        for (int i = 0; table.outputByte(i) >= 0; i++) {
            all.append((char) table.outputByte(i));
        }
        return all.toString();
    }
}
