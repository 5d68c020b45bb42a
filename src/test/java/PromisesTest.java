import java.util.NoSuchElementException;

/** Each promise of the document by itself: ordinary inputs, the edges that it names, and wrong inputs. */
public final class PromisesTest {
    private static final Class<IndexOutOfBoundsException> NO_INDEX = IndexOutOfBoundsException.class;
    private static final Class<IllegalArgumentException> NO_ARGUMENT = IllegalArgumentException.class;
    private static final Class<IllegalStateException> NO_STATE = IllegalStateException.class;
    private static final Class<NoSuchElementException> NO_ELEMENT = NoSuchElementException.class;
    private static final int[] NO_AXES = {-1, 3, Integer.MIN_VALUE, Integer.MAX_VALUE};

    private PromisesTest() {
    }

    private static void noAxis(String what, java.util.function.IntFunction<Object> call) {
        for (int axis : NO_AXES) {
            Check.dueThrow(what + " of axis " + axis, NO_INDEX, () -> call.apply(axis));
        }
    }

    private static void promise01() {
        StepperTable t = new StepperTable();
        Check.due("1 length", t.axis(0, 0) + t.axis(1, 0) + t.axis(2, 0), 600);
        int[] properties = {200, 0, 1000, 100, 5, 2, 0, 0, 0, 0, 0, 0, 1};
        for (int axis = 0; axis < 3; axis++) {
            for (int what = 0; what <= 12; what++) {
                Check.due("1 axis " + axis + " " + what, t.axis(axis, what), properties[what]);
            }
            Check.due("1 closed", t.readsClosed(axis), true);
        }
        int[] counts = {100, 0, 0, 0, 0, 0, 0};
        for (int what = 0; what <= 6; what++) {
            Check.due("1 count " + what, t.count(what), counts[what]);
        }
        Check.due("1 no input", t.truncateInput(1), false);
        Check.due("1 no output", t.outputByte(0), -1);
        Check.due("1 time", t.time(), 0L);
        Check.due("1 error", t.errorCode(), StepperTable.NO_ERROR);
        Check.due("1 offset", t.errorOffset(), -1);
        Check.dueThrow("1 nothing saved", NO_STATE, t::restoreState);
    }

    private static void promise02() {
        StepperTable t = new StepperTable();
        // "start 7;" and spaces
        Check.due("2 first", t.appendInput(0x73746172, 0x7420373b, 0x20202020, 0x20202020, 0x20202020), 20);
        Check.due("2 load", t.loadTable(), 600);
        Check.due("2 bytes in their order", t.count(0), 7);
        for (int n = 20; n <= 600; n += 20) {
            Check.due("2 up to " + n, t.appendInput(0x20202020, 0x0a202020, 0x20200a20, 0x2020200a, 0x20202020), n);
        }
        Check.due("2 full", t.appendInput(0, 0, 0, 0, 0), -1);
        Check.due("2 full again", t.appendInput(0, 0, 0, 0, 0), -1);
        Check.due("2 unchanged", t.loadTable(), 600);
        t.appendInput(0x20202020, 0x20202020, 0x20202020, 0x20202020, 0x20202020);
        t.appendInput(0x2020203b, 0, 0, 0, 0);
        t.loadTable();
        Check.due("2 lowest byte of a", t.errorOffset(), 23);
        t.appendInput(0x20202020, 0x20202020, 0x20202020, 0x20202020, 0x202020e9);
        t.loadTable();
        Check.due("2 lowest byte of e", t.errorOffset(), 19);
        Tables.write(t, " ".repeat(581));
        Check.due("2 581 bytes and 20 more", t.appendInput(0, 0, 0, 0, 0), -1);
        Check.due("2 still 581 bytes", t.truncateInput(581), true);
        Check.due("2 580 bytes", t.truncateInput(580), true);
        Check.due("2 580 bytes and 20 more", t.appendInput(0, 0, 0, 0, 0), 600);
    }

    private static void promise03() {
        StepperTable t = new StepperTable();
        Check.due("3 empty", t.truncateInput(0), true);
        Check.due("3 negative", t.truncateInput(-1), false);
        Check.due("3 least", t.truncateInput(Integer.MIN_VALUE), false);
        Check.due("3 beyond", t.truncateInput(1), false);
        t.appendInput(0x20202020, 0x3b202020, 0, 0, 0);
        Check.due("3 beyond 20", t.truncateInput(21), false);
        Check.due("3 greatest", t.truncateInput(Integer.MAX_VALUE), false);
        Check.due("3 equal", t.truncateInput(20), true);
        Check.due("3 less", t.truncateInput(4), true);
        Check.due("3 back", t.truncateInput(5), false);
        Check.due("3 what is left", t.loadTable(), 600);
        Check.due("3 appended behind", Tables.load(t, "start 9;"), 600);
        Check.due("3 start", t.count(0), 9);
    }

    private static void promise04() {
        StepperTable t = Tables.smallWithQueue();
        t.setStuck(0, 1);
        t.saveState();
        t.printQueue();
        t.run(1);
        Check.due("4 error", Tables.load(t, "x 1;"), -1);
        Check.due("4 emptied by an error", t.truncateInput(1), false);
        Check.due("4 an error changes nothing", t.count(4), 1);
        Check.due("4 nor what is undone", t.undo() >= 0, true);
        Check.due("4 nor the output", t.outputByte(0), (int) '1');
        Check.due("4 nor what is saved", t.restoreState(), 2);
        t.setStart(5);
        Check.due("4 load", Tables.load(t, "y 300 4 1 1 300 0; compensate; detect;"), 700);
        Check.due("4 emptied", t.truncateInput(1), false);
        Check.due("4 no queue", t.count(4), 0);
        Check.due("4 not homed", t.count(5), 0);
        Check.due("4 no changes", t.count(6), 0);
        Check.due("4 start", t.count(0), 100);
        Check.due("4 compensation", t.count(1), 1);
        Check.due("4 detection", t.count(2), 1);
        Check.due("4 not stuck", t.axis(0, 10), 0);
        Check.due("4 time", t.time(), 0L);
        Check.due("4 mean", t.meanDuration(), 0.0);
        Check.due("4 no slack", t.axis(0, 7), 0);
        Check.due("4 counted", t.axis(0, 8), 0);
        Check.due("4 account", t.account(0, 0), 0);
        Check.due("4 direction", t.axis(0, 12), 1);
        Check.due("4 output", t.outputByte(0), -1);
        Check.dueThrow("4 nothing saved", NO_STATE, t::restoreState);
        StepperTable alarmed = Tables.alarmed();
        Tables.load(alarmed, "");
        Check.due("4 no alarm", alarmed.count(3), 0);
        Check.due("4 greatest", Tables.load(t, "x 2000 20 5000 500 2000 20;y 2000 0 1 1 0 0;z 1 0 1 1 1 0;"), 4001);
        Check.due("4 without blanks", Tables.load(t, "x10 0 1 1 0 0;begin10 200 200;compensate;start1000;"), 410);
        Check.due("4 true position", t.axis(0, 6), 10);
        Check.due("4 leading zeros", Tables.load(t, "\n\nstart\n0010\n;\n"), 600);
        Check.due("4 start with zeros", t.count(0), 10);
    }

    private static void dueError(String text, int code, int offset) {
        StepperTable t = new StepperTable();
        Check.due("5 load of " + text, Tables.load(t, text), -1);
        Check.due("5 code of " + text, t.errorCode(), code);
        Check.due("6 offset of " + text, t.errorOffset(), offset);
        t.loadTable();
        Check.due("5 code behind " + text, t.errorCode(), StepperTable.NO_ERROR);
        Check.due("6 offset behind " + text, t.errorOffset(), -1);
    }

    private static void promises05And06() {
        dueError("x", StepperTable.SYNTAX, 1);
        dueError("x \n", StepperTable.SYNTAX, 3);
        dueError("compensate", StepperTable.SYNTAX, 10);
        dueError(";", StepperTable.SYNTAX, 0);
        dueError("  12;", StepperTable.SYNTAX, 2);
        dueError("start x;", StepperTable.SYNTAX, 6);
        dueError("start 7 8;", StepperTable.SYNTAX, 8);
        dueError("start ;", StepperTable.SYNTAX, 6);
        dueError("start 00007;", StepperTable.SYNTAX, 6);
        dueError("start 12345", StepperTable.SYNTAX, 6);
        dueError("start 7;;", StepperTable.SYNTAX, 8);
        dueError("startx 7;", StepperTable.SYNTAX, 0);
        dueError("star 7;", StepperTable.SYNTAX, 0);
        dueError("Start 7;", StepperTable.SYNTAX, 0);
        dueError("xy 1 1 1 1 1 1;", StepperTable.SYNTAX, 0);
        dueError("detect\t;", StepperTable.SYNTAX, 6);
        dueError("detect;\u00e9", StepperTable.SYNTAX, 7);
        dueError("detect;\u0000", StepperTable.SYNTAX, 7);
        dueError("compensatedetect;", StepperTable.SYNTAX, 0);
        dueError("x 10 0 1 1 1;", StepperTable.SYNTAX, 12);
        dueError("start -1;", StepperTable.SYNTAX, 6);
        dueError("start 0;", StepperTable.OUT_OF_RANGE, 6);
        dueError("start 1001;", StepperTable.OUT_OF_RANGE, 6);
        dueError("start 1001#", StepperTable.OUT_OF_RANGE, 6);
        dueError("x 0 0 1 1 0 0;", StepperTable.OUT_OF_RANGE, 2);
        dueError("x 2001 0 1 1 0 0;", StepperTable.OUT_OF_RANGE, 2);
        dueError("x 9 21 1 1 0 0;", StepperTable.OUT_OF_RANGE, 4);
        dueError("x 9 0 0 1 0 0;", StepperTable.OUT_OF_RANGE, 6);
        dueError("x 9 0 5001 1 0 0;", StepperTable.OUT_OF_RANGE, 6);
        dueError("x 9 0 1 0 0 0;", StepperTable.OUT_OF_RANGE, 8);
        dueError("x 9 0 1 501 0 0;", StepperTable.OUT_OF_RANGE, 8);
        dueError("x 9 0 1 1 10 0;", StepperTable.OUT_OF_RANGE, 10);
        dueError("x 9 0 1 1 9 21;", StepperTable.OUT_OF_RANGE, 12);
        dueError("begin 201 0 0;", StepperTable.OUT_OF_RANGE, 6);
        dueError("y 9 0 1 1 9 0;begin 200 10 0;", StepperTable.OUT_OF_RANGE, 24);
        dueError("begin 0 0 201;", StepperTable.OUT_OF_RANGE, 10);
        dueError("detect;detect;", StepperTable.MISPLACED, 7);
        dueError("detect;detect", StepperTable.MISPLACED, 7);
        dueError("start 1; start", StepperTable.MISPLACED, 9);
        dueError("x 9 0 1 1 9 0;\nx 9", StepperTable.MISPLACED, 15);
        dueError("begin 0 0 0;z 9 0 1 1 9 0;", StepperTable.MISPLACED, 12);
        dueError("begin 0 0 0;begin", StepperTable.MISPLACED, 12);
        StepperTable t = new StepperTable();
        Check.due("5 at first", t.errorCode(), 0);
        Check.due("6 at first", t.errorOffset(), -1);
        Tables.load(t, "start 0;");
        t.homeAll();
        t.undo();
        t.saveState();
        t.restoreState();
        Check.due("5 stays", t.errorCode(), StepperTable.OUT_OF_RANGE);
        Check.due("6 stays", t.errorOffset(), 6);
    }

    private static void promise07() {
        StepperTable t = Tables.loaded(Tables.SMALL + "detect;");
        t.home(0);
        t.home(2);
        int[] counts = {100, 0, 1, 0, 0, 2, 2};
        for (int what = 0; what <= 6; what++) {
            Check.due("7 count " + what, t.count(what), counts[what]);
        }
        t.setCompensation(true);
        t.setStart(1000);
        t.home(1);
        t.queue(0, 0, 1);
        int[] later = {1000, 1, 1, 0, 1, 3, 6};
        for (int what = 0; what <= 6; what++) {
            Check.due("7 later " + what, t.count(what), later[what]);
        }
        Check.due("7 alarm", Tables.alarmed().count(3), 1);
        for (int what : new int[] {-1, 7, Integer.MIN_VALUE, Integer.MAX_VALUE}) {
            Check.dueThrow("7 " + what, NO_ARGUMENT, () -> t.count(what));
        }
    }

    private static void promise08() {
        StepperTable t = Tables.small();
        int[] x = {100, 3, 1000, 100, 5, 2, 8, 3, 3, 0, 0, 1, 1};
        int[] y = {50, 1, 500, 50, 2, 2, 5, 1, 6, 0, 0, 1, 1};
        for (int what = 0; what <= 12; what++) {
            Check.due("8 x " + what, t.axis(0, what), x[what]);
            Check.due("8 y " + what, t.axis(1, what), y[what]);
        }
        t.setStuck(2, 2);
        t.jog(2, -20);
        int[] z = {20, 0, 250, 40, 5, 2, 0, 0, -16, 12, 2, 0, -1};
        for (int what = 0; what <= 12; what++) {
            Check.due("8 z " + what, t.axis(2, what), z[what]);
        }
        noAxis("8", axis -> t.axis(axis, 99));
        for (int what : new int[] {-1, 13, Integer.MIN_VALUE, Integer.MAX_VALUE}) {
            Check.dueThrow("8 " + what, NO_ARGUMENT, () -> t.axis(1, what));
        }
    }

    private static void promise09() {
        StepperTable t = Tables.smallWithQueue();
        Check.due("9 homed", t.coordinate(0), 0);
        t.run(1);
        Check.due("9 x", t.coordinate(0), 10);
        Check.due("9 y", t.coordinate(1), 5);
        t.runAll();
        Check.due("9 x then", t.coordinate(0), 20);
        t.jog(0, 1);
        Check.dueThrow("9 jogged", NO_STATE, () -> t.coordinate(0));
        Check.due("9 y stays", t.coordinate(1), 10);
        Check.dueThrow("9 not homed", NO_STATE, () -> new StepperTable().coordinate(2));
        noAxis("9", axis -> new StepperTable().coordinate(axis));
    }

    private static void promise10() {
        StepperTable t = Tables.small();
        Check.due("10 homed", t.error(0), 0);
        t.queue(10, 0, 0);
        t.queue(5, 0, 0);
        t.runAll();
        Check.due("10 backlash", t.error(0), 3);
        StepperTable losing = Tables.losing();
        losing.runAll();
        Check.due("10 lost", losing.error(0), -3);
        losing.reset();
        Check.dueThrow("10 not homed", NO_STATE, () -> losing.error(0));
        noAxis("10", axis -> losing.error(axis));
    }

    private static void promise11() {
        StepperTable t = Tables.loaded(Tables.SMALL);
        Check.due("11 x is open", t.readsClosed(0), false);
        Check.due("11 z is closed", t.readsClosed(2), true);
        t.jog(0, -2);
        Check.due("11 at 6", t.readsClosed(0), false);
        t.jog(0, -1);
        Check.due("11 at 5", t.readsClosed(0), true);
        t.jog(0, 5);
        Check.due("11 at 7", t.readsClosed(0), true);
        t.jog(0, 1);
        Check.due("11 at 8", t.readsClosed(0), false);
        t.setStuck(0, 2);
        Check.due("11 stuck closed", t.readsClosed(0), true);
        t.setStuck(0, 0);
        Check.due("11 not stuck", t.readsClosed(0), false);
        t.setStuck(2, 1);
        Check.due("11 stuck open", t.readsClosed(2), false);
        noAxis("11", axis -> t.readsClosed(axis));
    }

    private static void promise12() {
        StepperTable t = Tables.loaded(Tables.SMALL);
        Check.due("12 load", t.time(), 0L);
        t.home(0);
        Check.due("12 home", t.time(), 3 * 10000L + 6 * 40000L);
        t.home(1);
        t.home(2);
        Check.due("12 all", t.time(), 670000L);
        t.setStart(300);
        t.jog(2, -4);
        Check.due("12 jog, rounded down", t.time(), 670000L + 4 * 3333L);
        t.setStart(30);
        t.home(2);
        Check.due("12 home, rounded down before it is multiplied", t.time(), 683332L + 4 * (4 * 33333L));
        t.setStart(1);
        t.setStuck(0, 2);
        for (int i = 0; i < 6; i++) {
            t.home(0);
            t.reset();
        }
        Check.due("12 more than an int holds", t.time(), 683332L + 533328L + 6 * 104 * 4000000L);
    }

    private static void promise13() {
        StepperTable t = Tables.loaded(Tables.SMALL);
        Check.due("13 x", t.home(0), 9);
        Check.due("13 zero", t.axis(0, 6), 8);
        Check.due("13 homed", t.axis(0, 11), 1);
        Check.due("13 one change", t.count(6), 1);
        Check.due("13 y begins closed", t.home(1), 6);
        Check.due("13 again", t.home(0), 12);
        t.setStuck(0, 2);
        Check.due("13 never open", t.home(0), -1);
        Check.due("13 alarm 2", t.count(3), 2);
        Check.due("13 not homed", t.axis(0, 11), 0);
        Check.due("13 steps", t.axis(0, 8), 3 + 0 + 104);
        Check.due("13 at the end", t.axis(0, 6), 100);
        Check.due("13 change with an alarm", t.count(6), 5);
        Check.dueThrow("13 alarm", NO_STATE, () -> t.home(1));
        t.reset();
        t.setStuck(0, 1);
        Check.due("13 never closed", t.home(0), -1);
        Check.due("13 alarm 1", t.count(3), 1);
        Check.due("13 lost steps are no alarm 3", t.axis(0, 9) > 0, true);
        noAxis("13 with an alarm", axis -> t.home(axis));
        StepperTable queued = Tables.smallWithQueue();
        Check.dueThrow("13 queue", NO_STATE, () -> queued.home(0));
        Check.due("13 nothing changed", queued.count(6), 3);
        StepperTable open = Tables.loaded("x 9 0 1 1 0 0; begin 5 0 0; detect;");
        open.setStuck(0, 1);
        open.home(0);
        Check.due("13 length + backlash + 1 steps", open.account(0, 1), 10);
        Check.due("13 lost undetected", open.count(3), 1);
        StepperTable wide = Tables.loaded("x 9 0 1 1 0 0; begin 0 0 0;");
        Check.due("13 at 0", wide.home(0), 1);
        StepperTable exact = Tables.loaded("x 9 2 1 1 8 0; begin 0 0 0;");
        Check.due("13 opens with the last step but one", exact.home(0), 11);
        StepperTable never = Tables.loaded("x 9 2 1 1 9 0; begin 0 0 0;");
        Check.due("13 switch at the end", never.home(0), -1);
        Check.due("13 steps of the second part", never.account(0, 0), 12);
    }

    private static void promise14() {
        StepperTable t = Tables.small();
        Check.due("14 back through the slack", t.jog(0, -3), 8);
        Check.due("14 back", t.jog(0, -2), 6);
        Check.due("14 to the stop", t.jog(0, -100), 0);
        Check.due("14 lost", t.axis(0, 9), 94);
        Check.due("14 forward", t.jog(0, 4), 1);
        Check.due("14 far forward", t.jog(0, 100), 100);
        Check.due("14 not homed", t.axis(0, 11), 0);
        Check.due("14 others stay homed", t.count(5), 2);
        Check.due("14 time", t.time(), 670000L + 209 * 10000L);
        Check.due("14 changes", t.count(6), 6);
        noAxis("14", axis -> t.jog(axis, 0));
        for (int steps : new int[] {0, 101, -101, Integer.MIN_VALUE, Integer.MAX_VALUE}) {
            Check.dueThrow("14 " + steps, NO_ARGUMENT, () -> t.jog(0, steps));
        }
        StepperTable queued = Tables.smallWithQueue();
        Check.dueThrow("14 queue", NO_STATE, () -> queued.jog(0, 1));
        Check.dueThrow("14 steps ahead of the queue", NO_ARGUMENT, () -> queued.jog(0, 0));
        StepperTable alarmed = Tables.alarmed();
        Check.due("14 alarm", alarmed.jog(2, 1), 9);
        Check.due("14 the alarm stays", alarmed.count(3), 1);
        StepperTable detecting = Tables.loaded("detect;");
        Check.due("14 undetected", detecting.jog(0, -5), 0);
        Check.due("14 no alarm", detecting.count(3), 0);
    }

    private static void promise15() {
        StepperTable t = Tables.small();
        Check.due("15 first", t.queue(0, 0, 20), 1);
        Check.due("15 second", t.queue(100, 50, 20), 2);
        Check.due("15 kept", t.target(1, 1), 50);
        Check.due("15 changes", t.count(6), 3);
        Check.dueThrow("15 the same point", NO_STATE, () -> t.queue(100, 50, 20));
        for (int[] p : new int[][] {{101, 0, 0}, {-1, 0, 0}, {0, 51, 0}, {0, -1, 0}, {0, 0, 21}, {0, 0, -1}}) {
            Check.dueThrow("15 point", NO_ARGUMENT, () -> t.queue(p[0], p[1], p[2]));
        }
        Check.due("15 nothing changed", t.count(6), 3);
        Check.dueThrow("15 where the axes are", NO_STATE, () -> Tables.small().queue(0, 0, 0));
        Check.dueThrow("15 full", NO_STATE, () -> Tables.full().queue(50, 0, 0));
        Check.dueThrow("15 full, and out of range", NO_ARGUMENT, () -> Tables.full().queue(101, 0, 0));
        Check.dueThrow("15 alarm", NO_STATE, () -> Tables.alarmed().queue(1, 1, 1));
        StepperTable two = Tables.loaded(Tables.SMALL);
        two.home(0);
        two.home(1);
        Check.dueThrow("15 an axis is not homed", NO_STATE, () -> two.queue(1, 1, 1));
        Check.dueThrow("15 range comes first", NO_ARGUMENT, () -> two.queue(1, 1, 21));
    }

    private static void promise16() {
        StepperTable t = Tables.smallWithQueue();
        Check.due("16 one is left", t.unqueue(), 1);
        Check.due("16 the first one", t.target(0, 0), 10);
        Check.due("16 none is left", t.unqueue(), 0);
        Check.due("16 changes", t.count(6), 5);
        Check.dueThrow("16 empty", NO_ELEMENT, t::unqueue);
        Check.due("16 nothing changed", t.count(6), 5);
        t.undo();
        Check.due("16 undone", t.count(4), 1);
    }

    private static void promise17() {
        StepperTable t = Tables.smallWithQueue();
        long before = t.time();
        Check.due("17 first", t.run(1), 1);
        Check.due("17 as planned for the whole queue", t.time() - before, 29288L);
        Check.due("17 taken out", t.target(0, 0), 20);
        Check.due("17 planned anew", t.move(0, 3), 100);
        Check.due("17 true position", t.axis(0, 6), 18);
        Check.due("17 y", t.axis(1, 6), 10);
        Check.dueThrow("17 more", NO_ELEMENT, () -> t.run(2));
        for (int moves : new int[] {0, 17, -1, Integer.MIN_VALUE, Integer.MAX_VALUE}) {
            Check.dueThrow("17 " + moves, NO_ARGUMENT, () -> t.run(moves));
        }
        Check.due("17 changes", t.count(6), 4);
        StepperTable full = Tables.full();
        Check.due("17 sixteen", full.run(16), 16);
        StepperTable losing = Tables.losing();
        losing.queue(0, 0, 0);
        Check.due("17 undetected", losing.run(1), 1);
        Check.due("17 lost", losing.axis(0, 9), 3);
        Check.due("17 no alarm", losing.count(3), 0);
        StepperTable stopping = Tables.small();
        stopping.setDetection(true);
        stopping.queue(90, 0, 0);
        stopping.queue(95, 10, 20);
        stopping.queue(0, 0, 0);
        Check.due("17 stopped", stopping.run(3), 1);
        Check.due("17 alarm", stopping.count(3), 3);
        Check.due("17 no queue", stopping.count(4), 0);
        Check.due("17 not homed", stopping.count(5), 0);
        Check.due("17 one lost step", stopping.axis(0, 9), 1);
        // the third step of x comes with the step 9 of the move, in which z does not get its turn
        Check.due("17 y behind 9 steps", stopping.axis(1, 6), 5 + 5);
        Check.due("17 z behind 9 steps", stopping.axis(2, 6), 8 + 9);
        Check.due("17 changes with an alarm", stopping.count(6), 6);
    }

    private static void compensation() {
        StepperTable t = Tables.small();
        t.setCompensation(true);
        t.queue(10, 10, 0);
        t.run(1);
        Check.due("17 no turn", t.account(0, 2), 0);
        t.queue(9, 9, 1);
        long before = t.time();
        t.run(1);
        Check.due("17 compensated x", t.account(0, 2), 3);
        Check.due("17 compensated y", t.account(1, 2), 1);
        Check.due("17 compensation time", t.time() - before, 40000L + 10000);
        Check.due("17 no error", t.error(0), 0);
        StepperTable top = Tables.homed("x 20 5 1000 100 5 2; y 20 0 9 9 5 2; z 20 0 9 9 5 2; compensate;");
        top.queue(12, 0, 0);
        top.queue(11, 1, 0);
        top.queue(12, 0, 0);
        top.runAll();
        Check.due("17 turned twice", top.account(0, 2), 10);
        Check.due("17 the end stop", top.axis(0, 6), 20);
    }

    /** Compensation that is set on behind a turn pushes the axis into its end stop. */
    private static void lostCompensation(boolean detected) {
        StepperTable t = Tables.homed("x 20 5 1000 100 0 0; y 9 0 9 9 0 0; z 9 0 9 9 0 0;");
        t.queue(19, 0, 0);
        t.queue(18, 0, 0);
        t.runAll();
        Check.due("17 at the end stop", t.axis(0, 6), 20);
        t.setCompensation(true);
        t.setDetection(detected);
        t.queue(19, 0, 0);
        t.queue(18, 1, 0);
        long before = t.time();
        double mean = t.meanDuration();
        Check.due("17 made", t.run(1), detected ? 0 : 1);
        Check.due("17 alarm", t.count(3), detected ? 3 : 0);
        Check.due("17 compensation steps", t.account(0, 2), detected ? 2 : 5);
        Check.due("17 lost", t.axis(0, 9), detected ? 1 : 5);
        Check.due("17 time", t.time() - before, detected ? 20000L : 50000L + 111111);
        Check.due("17 the move began", t.account(0, 5), 2);
        Check.due("17 no step of the move was made", t.meanDuration() == mean, detected);
        Check.due("17 queue", t.count(4), detected ? 0 : 1);
        Check.due("17 homed", t.count(5), detected ? 0 : 3);
    }

    private static void promise18() {
        StepperTable t = Tables.alarmed();
        Check.due("18 alarm", t.reset(), 1);
        Check.due("18 none", t.count(3), 0);
        Check.due("18 no axis is homed", t.count(5), 0);
        Check.due("18 none before", t.reset(), 0);
        Check.due("18 changes", t.count(6), 5);
        StepperTable queued = Tables.smallWithQueue();
        Check.due("18 without an alarm", queued.reset(), 0);
        Check.due("18 queue", queued.count(4), 0);
        Check.due("18 homed", queued.count(5), 0);
        Check.due("18 places stay", queued.axis(0, 6), 8);
        Check.due("18 time stays", queued.time(), 670000L);
    }

    private static void promises19And20() {
        StepperTable t = Tables.small();
        Check.due("19 before", t.setCompensation(false), false);
        Check.due("19 on", t.setCompensation(true), false);
        Check.due("19 again", t.setCompensation(true), true);
        Check.due("19 is on", t.count(1), 1);
        Check.due("20 off", t.count(2), 0);
        Check.due("20 before", t.setDetection(true), false);
        Check.due("20 again", t.setDetection(false), true);
        Check.due("20 is off", t.count(2), 0);
        Check.due("19 stays", t.count(1), 1);
        Check.due("19 and 20 are changes", t.count(6), 6);
        t.setDetection(true);
        t.undo();
        Check.due("20 undone", t.count(2), 0);
    }

    private static void promise21() {
        StepperTable t = Tables.small();
        Check.due("21 open", t.setStuck(0, 1), 0);
        Check.due("21 closed", t.setStuck(0, 2), 1);
        Check.due("21 not", t.setStuck(0, 0), 2);
        Check.due("21 others", t.setStuck(1, 0), 0);
        Check.due("21 changes", t.count(6), 5);
        noAxis("21", axis -> t.setStuck(axis, 3));
        for (int how : new int[] {-1, 3, Integer.MIN_VALUE, Integer.MAX_VALUE}) {
            Check.dueThrow("21 " + how, NO_ARGUMENT, () -> t.setStuck(0, how));
        }
        Check.due("21 nothing changed", t.count(6), 5);
    }

    private static void promise22() {
        StepperTable t = Tables.smallWithQueue();
        Check.due("22 before", t.setStart(1), 100);
        Check.due("22 planned anew", t.move(0, 3), 1);
        Check.due("22 then", t.setStart(1000), 1);
        Check.due("22 planned anew", t.move(0, 3), 1000);
        for (int start : new int[] {0, -1, 1001, Integer.MIN_VALUE, Integer.MAX_VALUE}) {
            Check.dueThrow("22 " + start, NO_ARGUMENT, () -> t.setStart(start));
        }
        Check.due("22 changes", t.count(6), 5);
    }

    private static void noMove(String what, StepperTable queued, java.util.function.IntFunction<Object> call) {
        for (int move : new int[] {-1, queued.count(4), Integer.MIN_VALUE, Integer.MAX_VALUE}) {
            Check.dueThrow(what + " of move " + move, NO_INDEX, () -> call.apply(move));
        }
    }

    private static void promise23() {
        StepperTable t = Tables.smallWithQueue();
        int[] due = {10, 5, 0, 20, 10, 0};
        for (int i = 0; i < 6; i++) {
            Check.due("23 target", t.target(i / 3, i % 3), due[i]);
        }
        noMove("23", t, move -> t.target(move, 0));
        noAxis("23", axis -> t.target(0, axis));
        Check.dueThrow("23 empty", NO_INDEX, () -> Tables.small().target(0, 0));
    }

    private static void promise24() {
        StepperTable t = Tables.smallWithQueue();
        int[][] due = {{10, 1000, 100, 100, 1000, 1000, 1, 1}, {10, 1000, 100, 1000, 100, 1000, 1, 0}};
        for (int what = 0; what <= 7; what++) {
            Check.due("24 first " + what, t.move(0, what), due[0][what]);
            Check.due("24 second " + what, t.move(1, what), due[1][what]);
        }
        t.queue(20, 8, 20);
        // z: top 250, acceleration 40 limit it, y: 500 * 20 / 2 and 50 * 20 / 2 do not
        int[] third = {20, 250, 40, 100, 100, 250, 12, 0};
        for (int what = 0; what <= 7; what++) {
            Check.due("24 third " + what, t.move(2, what), third[what]);
        }
        t.unqueue();
        t.queue(21, 10, 0);
        Check.due("24 other direction", t.move(1, 7), 0);
        Check.due("24 a short one", t.move(2, 5), 100);
        t.queue(22, 10, 0);
        Check.due("24 straight along x", t.move(2, 7), 1);
        Check.due("24 speed between the two", t.move(2, 4), 200);
        t.queue(21, 10, 0);
        Check.due("24 back is not straight", t.move(3, 7), 0);
        noMove("24", t, move -> t.move(move, 99));
        for (int what : new int[] {-1, 8, Integer.MIN_VALUE, Integer.MAX_VALUE}) {
            Check.dueThrow("24 " + what, NO_ARGUMENT, () -> t.move(0, what));
        }
    }

    /** The speeds between the moves: lowered from the last to the first, then from the first to the last. */
    private static void planning() {
        StepperTable t = Tables.homed("x 200 0 5000 10 5 2; z 200 0 7 3 5 2; start 50;");
        for (int x = 1; x <= 6; x++) {
            t.queue(x, 0, 0);
        }
        int[] ahead = {50, 60, 70, 80, 70, 60};
        for (int move = 0; move < 6; move++) {
            Check.due("24 ahead of " + move, t.move(move, 3), ahead[move]);
        }
        Check.due("24 behind the last one", t.move(5, 4), 50);
        t.queue(6, 0, 1);
        int[] slow = {50, 57, 47, 37, 27, 17, 7};
        for (int move = 0; move < 7; move++) {
            Check.due("24 slow end, ahead of " + move, t.move(move, 3), move == 0 ? 50 : slow[move]);
        }
        Check.due("24 slow behind", t.move(6, 4), 7);
        t.insert(0, 0, 0, 1);
        Check.due("24 slow beginning", t.move(0, 3), 7);
        Check.due("24 behind the slow one", t.move(1, 3), 7);
        Check.due("24 behind one that z still limits", t.move(2, 3), 7);
        Check.due("24 up again", t.move(3, 3), 17);
        StepperTable early = Tables.homed("x 200 0 5000 10 5 2; z 200 0 7 3 5 2; start 50;");
        early.queue(2, 0, 0);
        early.queue(2, 0, 1);
        Check.due("24 even the first speed is made smaller", early.move(0, 3), 7 + 10 * 2);
    }

    private static void promise25() {
        StepperTable t = Tables.small();
        t.queue(10, 5, 0);
        int[] due = {100, 200, 300, 400, 500, 500, 400, 300, 200, 100};
        for (int step = 0; step < 10; step++) {
            Check.due("25 step " + step, t.speed(0, step), due[step]);
        }
        for (int step : new int[] {-1, 10, Integer.MIN_VALUE, Integer.MAX_VALUE}) {
            Check.dueThrow("25 " + step, NO_ELEMENT, () -> t.speed(0, step));
        }
        noMove("25", t, move -> t.speed(move, -1));
        t.queue(10, 5, 20);
        Check.due("25 cruise", t.speed(1, 10), 250);
    }

    private static void promise26() {
        StepperTable t = Tables.small();
        t.queue(10, 5, 0);
        int[] due = {0, 1, 1, 2, 2, 3, 3, 4, 4, 5, 5};
        for (int steps = 0; steps <= 10; steps++) {
            Check.due("26 y behind " + steps, t.stepsBehind(0, 1, steps), due[steps]);
            Check.due("26 x behind " + steps, t.stepsBehind(0, 0, steps), steps);
            Check.due("26 z behind " + steps, t.stepsBehind(0, 2, steps), 0);
        }
        t.queue(3, 4, 0);
        Check.due("26 backward", t.stepsBehind(1, 0, 7), 7);
        Check.due("26 backward y", t.stepsBehind(1, 1, 3), 0);
        Check.due("26 backward y then", t.stepsBehind(1, 1, 4), 1);
        for (int steps : new int[] {-1, 11, Integer.MIN_VALUE, Integer.MAX_VALUE}) {
            Check.dueThrow("26 " + steps, NO_ARGUMENT, () -> t.stepsBehind(0, 1, steps));
        }
        noMove("26", t, move -> t.stepsBehind(move, 0, -1));
        noAxis("26", axis -> t.stepsBehind(0, axis, -1));
    }

    private static void promise27() {
        StepperTable t = Tables.small();
        t.queue(10, 5, 0);
        t.queue(13, 6, 0);
        t.queue(14, 6, 0);
        t.queue(4, 7, 0);
        Check.due("27 a half", t.deviation(0), 0.5f);
        Check.due("27 a third", t.deviation(1), 1.0f / 3.0f);
        Check.due("27 none", t.deviation(2), 0.0f);
        Check.due("27 a tenth a step", t.deviation(3), 0.5f);
        t.queue(1, 5, 0);
        Check.due("27 four thirds as a float", t.deviation(4), 4.0f / 3.0f - 1.0f);
        noMove("27", t, t::deviation);
    }

    private static void promise28() {
        StepperTable t = Tables.loaded(Tables.SMALL);
        Check.due("28 steps", t.homeAll(), 19);
        Check.due("28 homed", t.count(5), 3);
        Check.due("28 one change", t.count(6), 1);
        Check.due("28 time", t.time(), 670000L);
        t.setStuck(1, 1);
        Check.due("28 alarm", t.homeAll(), -1);
        Check.due("28 z was homed ahead", t.account(2, 3), 2);
        Check.due("28 y failed", t.account(1, 4), 1);
        Check.due("28 x was left", t.account(0, 3), 1);
        Check.due("28 x stays homed", t.axis(0, 11), 1);
        Check.due("28 changes", t.count(6), 3);
        Check.dueThrow("28 an alarm", NO_STATE, t::homeAll);
        Check.dueThrow("28 a queue", NO_STATE, () -> Tables.smallWithQueue().homeAll());
        Check.due("28 nothing changed", t.count(6), 3);
    }

    private static void promise29() {
        StepperTable t = Tables.smallWithQueue();
        Check.due("29 two", t.runAll(), 2);
        Check.due("29 none", t.runAll(), 0);
        Check.due("29 changes", t.count(6), 5);
        Check.due("29 time", t.time(), 670000L + 58576);
        Check.due("29 not homed", new StepperTable().runAll(), 0);
        StepperTable losing = Tables.losing();
        losing.setDetection(true);
        losing.insert(0, 1, 0, 0);
        losing.queue(1, 0, 0);
        Check.due("29 stopped", losing.runAll(), 1);
        Check.due("29 alarm", losing.count(3), 3);
        Check.due("29 no queue", losing.count(4), 0);
        Check.due("29 changes", losing.count(6), 6);
    }

    private static void promise30() {
        StepperTable t = Tables.smallWithQueue();
        Check.due("30 between", t.insert(1, 15, 7, 3), 3);
        Check.due("30 its number", t.target(1, 2), 3);
        Check.due("30 behind it", t.target(2, 0), 20);
        Check.due("30 at the end", t.insert(3, 0, 0, 0), 4);
        Check.due("30 ahead", t.insert(0, 1, 0, 0), 5);
        Check.due("30 moved on", t.target(1, 0), 10);
        Check.due("30 changes", t.count(6), 6);
        Check.dueThrow("30 like the one ahead", NO_STATE, () -> t.insert(1, 1, 0, 0));
        Check.dueThrow("30 like the one behind", NO_STATE, () -> t.insert(1, 10, 5, 0));
        Check.dueThrow("30 where the axes are", NO_STATE, () -> t.insert(0, 0, 0, 0));
        for (int move : new int[] {-1, 6, Integer.MIN_VALUE, Integer.MAX_VALUE}) {
            Check.dueThrow("30 " + move, NO_ARGUMENT, () -> t.insert(move, 7, 7, 7));
        }
        for (int[] p : new int[][] {{101, 0, 0}, {-1, 0, 0}, {0, 51, 0}, {0, -1, 0}, {0, 0, 21}, {0, 0, -1}}) {
            Check.dueThrow("30 point", NO_ARGUMENT, () -> t.insert(0, p[0], p[1], p[2]));
        }
        Check.due("30 nothing changed", t.count(6), 6);
        Check.dueThrow("30 full", NO_STATE, () -> Tables.full().insert(3, 50, 0, 0));
        Check.dueThrow("30 full, out of range", NO_ARGUMENT, () -> Tables.full().insert(17, 50, 0, 0));
        Check.dueThrow("30 alarm", NO_STATE, () -> Tables.alarmed().insert(0, 1, 1, 1));
        Check.dueThrow("30 alarm, out of range", NO_ARGUMENT, () -> Tables.alarmed().insert(1, 1, 1, 1));
        Check.dueThrow("30 not homed", NO_STATE, () -> new StepperTable().insert(0, 1, 1, 1));
    }

    private static void promise31() {
        StepperTable t = Tables.smallWithQueue();
        t.queue(10, 5, 0);
        t.queue(0, 0, 0);
        Check.dueThrow("31 the same point twice then", NO_STATE, () -> t.dropTarget(1));
        Check.due("31 last", t.dropTarget(3), 3);
        Check.due("31 first", t.dropTarget(0), 2);
        Check.due("31 moved up", t.target(0, 0), 20);
        Check.due("31 changes", t.count(6), 7);
        Check.due("31 one", t.dropTarget(0), 1);
        t.queue(0, 0, 0);
        Check.dueThrow("31 where the axes are", NO_STATE, () -> t.dropTarget(0));
        noMove("31", t, t::dropTarget);
        Check.dueThrow("31 empty", NO_INDEX, () -> Tables.small().dropTarget(0));
    }

    private static void promise32() {
        StepperTable t = Tables.smallWithQueue();
        t.queue(30, 15, 0);
        Check.due("32 itself", t.swapTargets(1, 1), 2);
        Check.due("32 a change", t.count(6), 5);
        Check.due("32 first and last", t.swapTargets(0, 2), 1);
        Check.due("32 exchanged", t.target(0, 0), 30);
        Check.due("32 exchanged", t.target(2, 0), 10);
        Check.due("32 back", t.swapTargets(2, 0), 2);
        t.queue(10, 5, 0);
        t.queue(0, 0, 0);
        Check.dueThrow("32 the same point twice", NO_STATE, () -> t.swapTargets(1, 3));
        Check.dueThrow("32 where the axes are", NO_STATE, () -> t.swapTargets(0, 4));
        Check.due("32 unchanged", t.target(1, 0), 20);
        noMove("32", t, move -> t.swapTargets(move, 0));
        noMove("32 other", t, move -> t.swapTargets(1, move));
    }

    private static void promise33() {
        StepperTable t = Tables.small();
        t.queue(10, 5, 0);
        t.queue(3, 4, 1);
        Check.due("33 begin", t.pointAt(0, 0, 0), 0);
        Check.due("33 end", t.pointAt(0, 0, 10), 10);
        Check.due("33 y", t.pointAt(0, 1, 3), 2);
        Check.due("33 backward", t.pointAt(1, 0, 2), 8);
        Check.due("33 backward y", t.pointAt(1, 1, 4), 4);
        Check.due("33 z", t.pointAt(1, 2, 3), 0);
        Check.due("33 z then", t.pointAt(1, 2, 4), 1);
        for (int steps : new int[] {-1, 8, Integer.MIN_VALUE, Integer.MAX_VALUE}) {
            Check.dueThrow("33 " + steps, NO_ARGUMENT, () -> t.pointAt(1, 1, steps));
        }
        noMove("33", t, move -> t.pointAt(move, 0, -1));
        noAxis("33", axis -> t.pointAt(0, axis, -1));
    }

    private static void promise34() {
        StepperTable t = Tables.smallWithQueue();
        Check.due("34 up", t.rampSteps(0, true), 9);
        Check.due("34 not down", t.rampSteps(0, false), 0);
        Check.due("34 not up", t.rampSteps(1, true), 0);
        Check.due("34 down", t.rampSteps(1, false), 9);
        t.queue(20, 10, 20);
        Check.due("34 with a cruise", t.rampSteps(2, true), 4);
        Check.due("34 with a cruise", t.rampSteps(2, false), 4);
        noMove("34", t, move -> t.rampSteps(move, true));
    }

    private static void promise35() {
        StepperTable t = Tables.small();
        t.queue(10, 5, 0);
        Check.due("35 a tie", t.slowest(0), 0);
        t.queue(20, 11, 0);
        Check.due("35 y", t.slowest(1), 1);
        t.queue(40, 12, 5);
        Check.due("35 a tie of x and z", t.slowest(2), 0);
        t.queue(40, 12, 6);
        Check.due("35 z alone", t.slowest(3), 2);
        noMove("35", t, t::slowest);
    }

    private static void promise36() {
        StepperTable t = Tables.small();
        Check.due("36 empty", t.straightPairs(), 0);
        t.queue(10, 5, 0);
        Check.due("36 one", t.straightPairs(), 0);
        t.queue(20, 10, 0);
        Check.due("36 two", t.straightPairs(), 1);
        t.queue(22, 11, 0);
        Check.due("36 three", t.straightPairs(), 2);
        t.queue(23, 11, 0);
        Check.due("36 a bend", t.straightPairs(), 2);
        t.queue(21, 11, 0);
        Check.due("36 back", t.straightPairs(), 2);
    }

    private static void promise37() {
        StepperTable t = Tables.small();
        t.queue(10, 5, 2);
        t.runAll();
        Check.due("37 where it is", t.bound(0, true), 10);
        t.queue(7, 8, 1);
        t.queue(9, 9, 2);
        Check.due("37 greatest x is now", t.bound(0, true), 10);
        Check.due("37 least x", t.bound(0, false), 7);
        Check.due("37 greatest y", t.bound(1, true), 9);
        Check.due("37 least y is now", t.bound(1, false), 5);
        Check.due("37 greatest z", t.bound(2, true), 2);
        Check.due("37 least z", t.bound(2, false), 1);
        noAxis("37", axis -> new StepperTable().bound(axis, true));
        Check.dueThrow("37 not homed", NO_STATE, () -> new StepperTable().bound(1, false));
    }

    private static void promise38() {
        StepperTable t = Tables.smallWithQueue();
        Check.due("38 none", Tables.small().nearest(0, 0, 0), -1);
        Check.due("38 first", t.nearest(12, 7, 0), 0);
        Check.due("38 second", t.nearest(18, 9, 0), 1);
        Check.due("38 a tie", t.nearest(15, 7, 3), 0);
        Check.due("38 the greatest difference counts", t.nearest(14, 10, 0), 0);
        Check.due("38 z", t.nearest(20, 10, 50), 0);
        Check.due("38 least ints", t.nearest(Integer.MIN_VALUE, Integer.MIN_VALUE, Integer.MIN_VALUE), 0);
        Check.due("38 greatest ints", t.nearest(Integer.MAX_VALUE, Integer.MAX_VALUE, Integer.MAX_VALUE), 0);
        Check.due("38 no overflow", t.nearest(Integer.MAX_VALUE, 0, 0), 1);
        Check.due("38 no overflow below", t.nearest(Integer.MIN_VALUE, 0, 0), 0);
    }

    private static void promise39() {
        StepperTable t = Tables.small();
        t.queue(30, 0, 0);
        t.queue(6, 0, 0);
        t.queue(14, 0, 0);
        t.queue(2, 0, 0);
        t.queue(10, 0, 0);
        int[] due = {3, 1, 4, 2, 0};
        for (int i = 0; i < 5; i++) {
            Check.due("39 place " + i, t.nearestOrder(i), due[i]);
        }
        for (int index : new int[] {-1, 5, 16, Integer.MIN_VALUE, Integer.MAX_VALUE}) {
            Check.dueThrow("39 " + index, NO_ELEMENT, () -> t.nearestOrder(index));
        }
        t.run(3);
        Check.due("39 begins where the axes are", t.nearestOrder(0), 1);
        Check.due("39 then", t.nearestOrder(1), 0);
        Check.dueThrow("39 empty", NO_ELEMENT, () -> Tables.small().nearestOrder(0));
    }

    private static void promise40() {
        StepperTable t = Tables.smallWithQueue();
        Check.due("40 first", t.lastsUntil(0), 29288L);
        Check.due("40 second", t.lastsUntil(1), 58576L);
        t.queue(19, 10, 0);
        Check.due("40 third", t.lastsUntil(2), 68576L);
        t.setCompensation(true);
        Check.due("40 compensation", t.lastsUntil(2), 98576L);
        t.setDetection(true);
        t.queue(95, 10, 0);
        long detected = t.lastsUntil(3);
        t.setDetection(false);
        Check.due("40 as if detection was off", t.lastsUntil(3), detected);
        noMove("40", t, t::lastsUntil);
        Check.due("40 nothing changed", t.time(), 670000L);
    }

    private static void promise41() {
        StepperTable t = Tables.small();
        t.setCompensation(true);
        t.queue(2, 1, 0);
        t.queue(1, 1, 0);
        // steps end at 10000 and 20000; three compensation steps end at 50000, the last step at 60000
        int[][] due = {{0, 0}, {9999, 0}, {10000, 1}, {19999, 1}, {20000, 2}, {50000, 2}, {59999, 2}, {60000, 1},
            {Integer.MAX_VALUE, 1}};
        for (int[] pair : due) {
            Check.due("41 x at " + pair[0], t.whereAt(0, pair[0]), pair[1]);
        }
        Check.due("41 y ahead", t.whereAt(1, 9999), 0);
        Check.due("41 y", t.whereAt(1, 10000), 1);
        Check.due("41 z", t.whereAt(2, 60000), 0);
        Check.due("41 empty queue", Tables.small().whereAt(0, 5), 0);
        noAxis("41", axis -> t.whereAt(axis, -1));
        Check.dueThrow("41 negative", NO_ARGUMENT, () -> new StepperTable().whereAt(0, -1));
        Check.dueThrow("41 least", NO_ARGUMENT, () -> t.whereAt(0, Integer.MIN_VALUE));
        Check.dueThrow("41 not homed", NO_STATE, () -> new StepperTable().whereAt(0, 0));
    }

    private static void promise42() {
        StepperTable t = Tables.smallWithQueue();
        Check.due("42 x", t.trueBehind(0), 28);
        Check.due("42 y", t.trueBehind(1), 15);
        t.queue(18, 10, 0);
        Check.due("42 backlash", t.trueBehind(0), 28);
        t.setCompensation(true);
        Check.due("42 compensated", t.trueBehind(0), 26);
        Check.due("42 nothing moves", t.axis(0, 6), 8);
        StepperTable losing = Tables.losing();
        losing.setDetection(true);
        losing.queue(90, 0, 0);
        Check.due("42 detection is off", losing.trueBehind(0), 98);
        Check.due("42 but stays set", losing.count(2), 1);
        Check.due("42 not homed", Tables.loaded("begin 7 0 0;").trueBehind(0), 7);
        noAxis("42", t::trueBehind);
    }

    private static void promises43And44() {
        StepperTable t = Tables.small();
        Check.due("44 empty", t.queueLength(), 0.0);
        t.queue(3, 4, 0);
        t.queue(4, 4, 0);
        t.queue(0, 0, 7);
        double root = 81.0;
        for (int i = 0; i < 60; i++) {
            root = (root + 81.0 / root) / 2.0;
        }
        Check.due("43 five", t.lineLength(0), 5.0);
        Check.due("43 one", t.lineLength(1), 1.0);
        Check.due("43 nine", t.lineLength(2), root);
        Check.due("44 all", t.queueLength(), 0.0 + 5.0 + 1.0 + root);
        t.queue(1, 1, 8);
        Check.due("43 the root of 3", t.lineLength(3), 1.7320508075688772);
        noMove("43", t, t::lineLength);
    }

    private static void promise45() {
        StepperTable t = Tables.smallWithQueue();
        Check.due("45 ramp", t.meanSpeed(0), 10000000.0 / 29288.0);
        t.setCompensation(true);
        t.queue(19, 10, 0);
        Check.due("45 without compensation", t.meanSpeed(2), 100.0);
        StepperTable far = Tables.homed("x 2000 0 5000 500 5 2; start 1000;");
        far.queue(2000, 0, 0);
        Check.due("45 far", far.meanSpeed(0), 2000000000.0 / (double) far.queueTime());
        Check.due("45 far is fast", far.meanSpeed(0) > 4900.0, true);
        noMove("45", t, t::meanSpeed);
    }

    private static void promise46() {
        StepperTable t = Tables.smallWithQueue();
        t.queue(5, 10, 3);
        Check.due("46 x", t.travel(0), 35);
        Check.due("46 y", t.travel(1), 10);
        Check.due("46 z", t.travel(2), 3);
        Check.due("46 empty", Tables.small().travel(0), 0);
        noAxis("46", t::travel);
    }

    private static void promise47() {
        StepperTable t = Tables.smallWithQueue();
        Check.due("47 none", t.turnsAhead(0), 0);
        t.queue(19, 10, 0);
        t.queue(19, 9, 0);
        t.queue(18, 10, 0);
        t.queue(19, 10, 0);
        Check.due("47 x", t.turnsAhead(0), 2);
        Check.due("47 y", t.turnsAhead(1), 2);
        Check.due("47 z", t.turnsAhead(2), 0);
        t.runAll();
        Check.due("47 empty", t.turnsAhead(0), 0);
        t.queue(18, 10, 0);
        Check.due("47 the latest direction", t.turnsAhead(0), 1);
        noAxis("47", t::turnsAhead);
    }

    private static void promise48() {
        StepperTable t = Tables.small();
        Check.due("48 empty", t.queueTime(), 0L);
        t.queue(10, 5, 0);
        Check.due("48 one", t.queueTime(), 45666L);
        t.queue(20, 10, 0);
        Check.due("48 two", t.queueTime(), 58576L);
        t.queue(19, 10, 0);
        t.setCompensation(true);
        Check.due("48 compensation", t.queueTime(), 98576L);
        StepperTable losing = Tables.losing();
        long whole = losing.queueTime();
        losing.setDetection(true);
        Check.due("48 behind lost steps", losing.queueTime(), whole);
        Check.due("48 not homed", new StepperTable().queueTime(), 0L);
        long before = losing.time();
        losing.setDetection(false);
        losing.runAll();
        Check.due("48 as it lasts", losing.time() - before, whole);
        StepperTable slow = Tables.homed("x 2000 20 1 1 0 0; start 1;");
        for (int i = 0; i < 16; i++) {
            slow.queue(i % 2 == 0 ? 2000 : 0, 0, 0);
        }
        Check.due("48 more than an int holds", slow.queueTime(), 16 * 2000L * 1000000L);
    }

    private static void promise49() {
        StepperTable t = Tables.small();
        Check.due("49 there", t.straightTime(0, 0, 0), 0L);
        Check.due("49 one step", t.straightTime(1, 0, 0), 10000L);
        Check.due("49 ramp", t.straightTime(10, 5, 0), 45666L);
        t.queue(100, 50, 20);
        Check.due("49 as if the queue was empty", t.straightTime(10, 5, 0), 45666L);
        Check.due("49 nothing changed", t.target(0, 0), 100);
        t.unqueue();
        t.queue(5, 0, 0);
        t.runAll();
        t.setCompensation(true);
        Check.due("49 compensation", t.straightTime(4, 0, 0), 40000L);
        for (int[] p : new int[][] {{101, 0, 0}, {-1, 0, 0}, {0, 51, 0}, {0, -1, 0}, {0, 0, 21}, {0, 0, -1}}) {
            Check.dueThrow("49 point", NO_ARGUMENT, () -> t.straightTime(p[0], p[1], p[2]));
        }
        t.jog(2, 1);
        Check.dueThrow("49 not homed", NO_STATE, () -> t.straightTime(0, 0, 0));
        Check.dueThrow("49 range comes first", NO_ARGUMENT, () -> t.straightTime(0, 0, 21));
    }

    private static void promise50() {
        StepperTable t = Tables.losing();
        Check.due("50 three", t.wouldLose(), 3);
        t.setDetection(true);
        Check.due("50 detection is off", t.wouldLose(), 3);
        t.queue(0, 50, 20);
        Check.due("50 of all axes", t.wouldLose(), 3 + 5 + 8);
        Check.due("50 nothing is lost", t.axis(0, 9), 0);
        Check.due("50 none", Tables.smallWithQueue().wouldLose(), 0);
        StepperTable lost = new StepperTable();
        lost.jog(0, -7);
        Check.due("50 earlier ones do not count", lost.wouldLose(), 0);
    }

    private static void promise51() {
        StepperTable t = Tables.losing();
        Check.due("51 lost", t.wouldErr(0), -3);
        t.setDetection(true);
        Check.due("51 detection is off", t.wouldErr(0), -3);
        Check.due("51 others", t.wouldErr(1), 0);
        t.queue(90, 0, 0);
        Check.due("51 backlash", t.wouldErr(0), 0);
        t.setCompensation(true);
        Check.due("51 compensated", t.wouldErr(0), -3);
        Check.due("51 now", t.error(0), 0);
        noAxis("51", axis -> new StepperTable().wouldErr(axis));
        Check.dueThrow("51 not homed", NO_STATE, () -> new StepperTable().wouldErr(0));
    }

    private static void promise52() {
        StepperTable t = Tables.loaded(Tables.SMALL);
        Check.due("52 x", t.wouldHome(0), 9);
        Check.due("52 y", t.wouldHome(1), 6);
        Check.due("52 not homed by it", t.count(5), 0);
        Check.due("52 no time", t.time(), 0L);
        t.setStuck(1, 1);
        Check.due("52 never closed", t.wouldHome(1), -1);
        t.setStuck(1, 2);
        Check.due("52 never open", t.wouldHome(1), -1);
        t.home(1);
        Check.due("52 with an alarm", t.wouldHome(0), 9);
        Check.due("52 with a queue", Tables.smallWithQueue().wouldHome(0), 12);
        noAxis("52", t::wouldHome);
    }

    private static void promise53() {
        Check.due("53 empty", Tables.small().bestFirst(), -1);
        Check.due("53 as it is", Tables.smallWithQueue().bestFirst(), 0);
        StepperTable t = Tables.small();
        t.queue(90, 0, 0);
        t.queue(10, 0, 0);
        t.queue(20, 0, 0);
        Check.due("53 the near one", t.bestFirst(), 1);
        StepperTable there = Tables.small();
        there.queue(10, 0, 0);
        there.queue(0, 0, 0);
        Check.due("53 where the axes are is left out", there.bestFirst(), 1);
        StepperTable again = Tables.small();
        again.queue(50, 0, 0);
        again.queue(20, 0, 0);
        again.queue(50, 0, 0);
        Check.due("53 left out among the others", again.bestFirst(), 1);
        StepperTable shorter = Tables.small();
        shorter.queue(5, 0, 0);
        shorter.queue(6, 0, 0);
        shorter.queue(5, 0, 0);
        Check.due("53 one move less", shorter.bestFirst(), 2);
        StepperTable tie = Tables.homed("");
        tie.queue(0, 5, 0);
        tie.queue(5, 0, 0);
        Check.due("53 a tie", tie.bestFirst(), 0);
        Check.due("53 nothing changed", tie.count(4) + tie.target(0, 1), 7);
    }

    private static void promise54() {
        Check.dueThrow("54 empty", NO_ELEMENT, () -> Tables.small().bestStart());
        Check.due("54 fast", Tables.smallWithQueue().bestStart(), 1000);
        StepperTable t = Tables.small();
        t.queue(0, 0, 9);
        Check.due("54 a tie beyond the top speed", t.bestStart(), 250);
        Check.due("54 nothing changed", t.count(0), 100);
        t.queue(0, 0, 8);
        Check.due("54 without backlash", t.bestStart(), 250);
        t.queue(1, 0, 8);
        t.queue(0, 0, 8);
        Check.due("54 what x can gain in one step", t.bestStart(), 350);
        StepperTable slow = Tables.homed("z 20 4 20 1 5 2;");
        slow.queue(0, 0, 9);
        Check.due("54 the least one", slow.bestStart(), 50);
        slow.queue(0, 0, 8);
        slow.setCompensation(true);
        Check.due("54 compensation", slow.bestStart(), 1000);
    }

    private static void promise55() {
        StepperTable t = Tables.small();
        Check.due("55 forward", t.slackLeft(0, true), 1);
        Check.due("55 backward", t.slackLeft(0, false), 4);
        t.jog(0, -2);
        Check.due("55 forward then", t.slackLeft(0, true), 3);
        Check.due("55 backward then", t.slackLeft(0, false), 2);
        t.jog(0, -50);
        Check.due("55 at 0", t.slackLeft(0, false), -1);
        Check.due("55 forward from 0", t.slackLeft(0, true), 4);
        t.jog(0, 100);
        t.jog(0, 100);
        Check.due("55 at the length", t.slackLeft(0, true), -1);
        Check.due("55 backward from there", t.slackLeft(0, false), 4);
        t.jog(0, -1);
        Check.due("55 slack at the length", t.slackLeft(0, true), -1);
        noAxis("55", axis -> t.slackLeft(axis, true));
    }

    private static void promise56() {
        StepperTable t = Tables.small();
        int[] homed = {6, 3, 0, 1, 0, 0};
        for (int what = 0; what <= 5; what++) {
            Check.due("56 homed " + what, t.account(0, what), homed[what]);
        }
        t.setCompensation(true);
        t.queue(4, 0, 0);
        t.queue(2, 0, 0);
        t.queue(1, 0, 0);
        t.queue(2, 0, 0);
        t.runAll();
        int[] moved = {6 + 4 + 3 + 1, 3 + 3 + 3, 6, 1, 0, 2};
        for (int what = 0; what <= 5; what++) {
            Check.due("56 moved " + what, t.account(0, what), moved[what]);
        }
        t.setStuck(0, 2);
        t.home(0);
        t.reset();
        t.jog(0, -9);
        int[] failed = {14 + 104, 9 + 9, 6, 1, 1, 2};
        for (int what = 0; what <= 5; what++) {
            Check.due("56 failed " + what, t.account(0, what), failed[what]);
        }
        StepperTable stopped = Tables.losing();
        stopped.setDetection(true);
        stopped.queue(0, 1, 0);
        stopped.runAll();
        Check.due("56 a move that did not begin", stopped.account(0, 5), 0);
        StepperTable begun = Tables.homed("x 20 0 9 9 5 2; y 20 0 9 9 5 2; z 20 0 9 9 5 2; detect;");
        begun.queue(12, 12, 1);
        begun.queue(11, 11, 0);
        begun.queue(12, 11, 1);
        begun.queue(13, 10, 0);
        Check.due("56 the fourth one stops", begun.runAll(), 3);
        Check.due("56 reversals of x", begun.account(0, 5), 2);
        Check.due("56 reversals of y", begun.account(1, 5), 1);
        Check.due("56 counted for all axes as it begins", begun.account(2, 5), 3);
        noAxis("56", axis -> t.account(axis, 6));
        for (int what : new int[] {-1, 6, Integer.MIN_VALUE, Integer.MAX_VALUE}) {
            Check.dueThrow("56 " + what, NO_ARGUMENT, () -> t.account(0, what));
        }
    }

    private static void promise57() {
        StepperTable t = Tables.smallWithQueue();
        Check.due("57 none", t.meanDuration(), 0.0);
        StepperTable one = Tables.small();
        one.queue(1, 0, 0);
        one.runAll();
        Check.due("57 one", one.meanDuration(), 10000.0);
        t.run(1);
        Check.due("57 ten", t.meanDuration(), 2928.8);
        t.setCompensation(true);
        t.unqueue();
        t.queue(9, 5, 0);
        t.run(1);
        Check.due("57 without compensation", t.meanDuration(), 39288.0 / 11.0);
        t.jog(0, 5);
        t.homeAll();
        Check.due("57 without jogging and homing", t.meanDuration(), 39288.0 / 11.0);
        StepperTable losing = Tables.losing();
        losing.setDetection(true);
        long before = losing.time();
        losing.runAll();
        Check.due("57 with the step that was lost", losing.meanDuration(), (double) (losing.time() - before) / 93.0);
    }

    private static void promise58() {
        StepperTable t = Tables.loaded("x 100 0 9 9 5 2;");
        Check.due("58 none", t.lostShare(0), 0.0f);
        t.jog(0, -3);
        Check.due("58 all", t.lostShare(0), 1.0f);
        t.jog(0, 7);
        Check.due("58 three of ten", t.lostShare(0), 3.0f / 10.0f);
        Check.due("58 others", t.lostShare(1), 0.0f);
        noAxis("58", t::lostShare);
    }

    private static void promises59And60() {
        StepperTable t = Tables.small();
        Check.due("60 nothing", t.outputByte(0), -1);
        Check.due("59 empty", t.printQueue(), 1);
        Check.due("60 a dot", Tables.output(t), ".");
        t.queue(10, 5, 0);
        Check.due("60 not printed yet", Tables.output(t), ".");
        Check.due("59 one", t.printQueue(), 6);
        Check.due("60 one", Tables.output(t), "10,5,0");
        t.queue(100, 50, 20);
        Check.due("59 two", t.printQueue(), 16);
        Check.due("60 two", Tables.output(t), "10,5,0 100,50,20");
        t.undo();
        Check.due("60 not undone", Tables.output(t), "10,5,0 100,50,20");
        t.saveState();
        t.printQueue();
        t.restoreState();
        Check.due("60 not restored", Tables.output(t), "10,5,0");
        for (int index : new int[] {-1, 6, 239, 240, Integer.MIN_VALUE, Integer.MAX_VALUE}) {
            Check.due("60 " + index, t.outputByte(index), -1);
        }
        StepperTable far = Tables.homed("x 2000 0 9 9 5 2;y 2000 0 9 9 5 2;z 2000 0 9 9 5 2;");
        for (int i = 0; i < 16; i++) {
            far.queue(2000, 1090, 1000 + i);
        }
        Check.due("59 the longest", far.printQueue(), 16 * 14 + 15);
        Check.due("60 its end", Tables.output(far).substring(225), "2000,1090,1015");
    }

    private static void promise61() {
        StepperTable t = Tables.small();
        Check.due("61 homing", t.undo(), 0);
        Check.due("61 not homed", t.count(5), 0);
        Check.due("61 place", t.axis(0, 6), 8);
        Check.due("61 slack", t.axis(0, 7), 0);
        Check.due("61 time", t.time(), 0L);
        Check.due("61 account", t.account(0, 0), 0);
        Check.due("61 none", t.undo(), -1);
        t.homeAll();
        for (int start = 1; start <= 12; start++) {
            t.setStart(start);
        }
        Check.due("61 at most 10", t.count(6), 10);
        for (int left = 9; left >= 0; left--) {
            Check.due("61 left", t.undo(), left);
            Check.due("61 start", t.count(0), left + 2);
        }
        Check.due("61 the latest ten", t.undo(), -1);
        Check.due("61 still homed", t.count(5), 3);
        t.queue(5, 5, 5);
        t.run(1);
        double mean = t.meanDuration();
        t.queue(0, 0, 0);
        t.runAll();
        t.undo();
        Check.due("61 queue", t.target(0, 0), 0);
        Check.due("61 mean", t.meanDuration(), mean);
        Check.due("61 coordinates", t.coordinate(0), 5);
        Check.due("61 direction", t.axis(0, 12), 1);
        t.unqueue();
        t.jog(0, 9);
        t.undo();
        Check.due("61 jog", t.axis(0, 11), 1);
        t.setStuck(0, 2);
        t.home(0);
        t.undo();
        Check.due("61 alarm", t.count(3), 0);
        Check.due("61 stuck", t.axis(0, 10), 2);
        t.undo();
        Check.due("61 not stuck", t.axis(0, 10), 0);
        Check.dueThrow("61 a call that throws", NO_ARGUMENT, () -> t.setStart(0));
        int left = t.count(6);
        Check.due("61 is no change", t.undo(), left - 1);
    }

    private static void promises62And63() {
        StepperTable t = Tables.smallWithQueue();
        Check.dueThrow("63 nothing is saved", NO_STATE, t::restoreState);
        t.setStuck(1, 2);
        Check.due("62 two", t.saveState(), 2);
        Check.due("62 no change", t.count(6), 4);
        t.setStart(7);
        t.runAll();
        t.setStuck(1, 0);
        long passed = t.time();
        Check.due("63 two", t.restoreState(), 2);
        Check.due("63 start", t.count(0), 100);
        Check.due("63 time", t.time(), 670000L);
        Check.due("63 later", passed > 670000L, true);
        Check.due("63 stuck", t.axis(1, 10), 2);
        Check.due("63 place", t.axis(0, 6), 8);
        Check.due("63 coordinate", t.coordinate(0), 0);
        Check.due("63 mean", t.meanDuration(), 0.0);
        Check.due("63 nothing to undo", t.undo(), -1);
        t.unqueue();
        Check.due("63 stays saved", t.restoreState(), 2);
        t.reset();
        Check.due("62 in place of the earlier one", t.saveState(), 0);
        t.undo();
        Check.due("62 undoing does not change it", t.restoreState(), 0);
        Check.due("63 not homed", t.count(5), 0);
        Tables.write(t, "start 5;");
        t.saveState();
        t.restoreState();
        Check.due("63 the input stays", t.loadTable(), 600);
        Check.due("63 loaded", t.count(0), 5);
        Check.dueThrow("63 nothing behind a load", NO_STATE, t::restoreState);
    }

    public static void main(String[] args) {
        promise01();
        promise02();
        promise03();
        promise04();
        promises05And06();
        promise07();
        promise08();
        promise09();
        promise10();
        promise11();
        promise12();
        promise13();
        promise14();
        promise15();
        promise16();
        promise17();
        compensation();
        lostCompensation(true);
        lostCompensation(false);
        promise18();
        promises19And20();
        promise21();
        promise22();
        promise23();
        promise24();
        planning();
        promise25();
        promise26();
        promise27();
        promise28();
        promise29();
        promise30();
        promise31();
        promise32();
        promise33();
        promise34();
        promise35();
        promise36();
        promise37();
        promise38();
        promise39();
        promise40();
        promise41();
        promise42();
        promises43And44();
        promise45();
        promise46();
        promise47();
        promise48();
        promise49();
        promise50();
        promise51();
        promise52();
        promise53();
        promise54();
        promise55();
        promise56();
        promise57();
        promise58();
        promises59And60();
        promise61();
        promises62And63();
        Check.end("PromisesTest");
    }
}
