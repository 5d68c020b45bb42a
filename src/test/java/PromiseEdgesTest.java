import java.io.IOException;
import java.util.NoSuchElementException;
import java.util.Set;
import java.util.function.IntFunction;
import java.util.function.Supplier;

/** Promises 1 to 63: each sentence that names a boundary case has a test of its own. */
public final class PromiseEdgesTest {
    private static final Class<IndexOutOfBoundsException> NO_INDEX = IndexOutOfBoundsException.class;
    private static final Class<IllegalArgumentException> NO_ARGUMENT = IllegalArgumentException.class;
    private static final Class<IllegalStateException> NO_STATE = IllegalStateException.class;
    private static final Class<NoSuchElementException> NO_ELEMENT = NoSuchElementException.class;
    private static final int LEAST = Integer.MIN_VALUE;
    private static final int GREATEST = Integer.MAX_VALUE;

    /** Sentences that name no boundary, or whose boundary a sentence beside them names. */
    private static final Set<String> PLAIN = Set.of("- `length`: new length", "- `on`: whether it is on from now on",
        "Returns a number of the table.", "Returns the number.", "Returns a property of an axis.", "Returns the property.",
        "Returns the coordinate of an axis.", "Returns the coordinate.", "Returns the error of an axis.", "Homes an axis.",
        "Truncates the input buffer.", "Tells whether the switch of an axis reads closed.",
        "Returns a coordinate of a target of the queue.", "Returns the speed.", "Returns the number of steps.",
        "Returns the time.", "Returns the true position.", "Returns the length.", "Returns the mean speed.",
        "Returns the error.", "Returns a byte of the output.", "Lets a switch be stuck.", "Sets the setting start.",
        "Returns a coordinate behind some steps of a move of the queue.", "Returns the coordinate of the axis then.");

    private PromiseEdgesTest() {
    }

    // ---- what many promises share ----

    private static void dueAnswer(String what, Check.Call call) {
        Check.due(what, Check.thrown(call), "nothing");
    }

    /** The axes 0 to 2 answer, and no other one does. */
    private static void axisRange(Edges e, Supplier<StepperTable> table, AxisCall call) {
        e.says("- `axis`: 0 to 2").says("Throws `IndexOutOfBoundsException` if axis is not 0 to 2").holds(() -> {
            StepperTable t = table.get();
            for (int axis : new int[] {-1, 3, LEAST, GREATEST}) {
                Check.dueThrow("axis " + axis, NO_INDEX, () -> call.answer(t, axis));
            }
            for (int axis = 0; axis < 3; axis++) {
                int there = axis;
                dueAnswer("axis " + axis, () -> call.answer(table.get(), there));
            }
        });
    }

    private interface AxisCall {
        Object answer(StepperTable table, int axis);
    }

    /** As many moves as the queue holds answer, from 0 on, and no other one does. */
    private static void moveRange(Edges e, AxisCall call) {
        e.says("- `move`: number of a move of the queue, from 0").says("Throws `IndexOutOfBoundsException` if there is no such "
            + "move").holds(() -> moveEdges(call));
    }

    private static void moveEdges(AxisCall call) {
        StepperTable empty = Tables.small();
        Check.dueThrow("move 0 of none", NO_INDEX, () -> call.answer(empty, 0));
        Check.dueThrow("move -1 of none", NO_INDEX, () -> call.answer(empty, -1));
        for (int move : new int[] {-1, 2, LEAST, GREATEST}) {
            Check.dueThrow("move " + move + " of 2", NO_INDEX, () -> call.answer(Tables.smallWithQueue(), move));
        }
        dueAnswer("move 0 of 2", () -> call.answer(Tables.smallWithQueue(), 0));
        dueAnswer("move 1 of 2", () -> call.answer(Tables.smallWithQueue(), 1));
        dueAnswer("move 15 of 16", () -> call.answer(Tables.full(), 15));
        Check.dueThrow("move 16 of 16", NO_INDEX, () -> call.answer(Tables.full(), 16));
        StepperTable less = Tables.full();
        less.run(1);
        Check.dueThrow("move 15 of 15", NO_INDEX, () -> call.answer(less, 15));
        dueAnswer("move 14 of 15", () -> call.answer(less, 14));
    }

    private static void whatRange(int greatest, IntFunction<Object> call) {
        for (int what = 0; what <= greatest; what++) {
            int number = what;
            dueAnswer("what " + what, () -> call.apply(number));
        }
        for (int what : new int[] {-1, greatest + 1, LEAST, GREATEST}) {
            Check.dueThrow("what " + what, NO_ARGUMENT, () -> call.apply(what));
        }
    }

    /** One change, which can be undone. */
    private static void dueChange(String what, StepperTable t, Check.Call call) {
        String before = Tables.snapshot(t);
        int changes = t.count(6);
        dueAnswer(what, call);
        Check.due(what + ": changes", t.count(6), changes + 1);
        Check.due(what + ": undo", t.undo(), changes);
        Check.due(what + ": undone", Tables.snapshot(t), before);
    }

    /** The three coordinates of a target: 0 and the length of each axis fit, what is beyond does not. */
    private static void pointRange(PointCall call) {
        int[][] fitting = {{0, 0, 20}, {0, 50, 0}, {100, 0, 0}, {100, 50, 20}};
        int[][] others = {{-1, 0, 0}, {101, 0, 0}, {0, -1, 0}, {0, 51, 0}, {0, 0, -1}, {0, 0, 21}, {LEAST, 1, 1}, {GREATEST, 1, 1},
            {1, LEAST, 1}, {1, GREATEST, 1}, {1, 1, LEAST}, {1, 1, GREATEST}};
        for (int[] p : fitting) {
            dueAnswer("to " + p[0] + ", " + p[1] + ", " + p[2], () -> call.answer(Tables.small(), p[0], p[1], p[2]));
        }
        for (int[] p : others) {
            Check.dueThrow("to " + p[0] + ", " + p[1] + ", " + p[2], NO_ARGUMENT,
                () -> call.answer(Tables.small(), p[0], p[1], p[2]));
        }
    }

    private interface PointCall {
        Object answer(StepperTable table, int x, int y, int z);
    }

    private static StepperTable queued(String text, int[]... targets) {
        StepperTable t = Tables.homed(text);
        for (int[] target : targets) {
            t.queue(target[0], target[1], target[2]);
        }
        return t;
    }

    private static int[] at(int x, int y, int z) {
        return new int[] {x, y, z};
    }

    /** Stopped by a lost step in the second of three moves: alarm 3. */
    private static StepperTable stopped() {
        StepperTable t = queued("x 9 0 100 10 0 0; detect;", at(8, 0, 0), at(9, 0, 0), at(0, 0, 0));
        t.runAll();
        return t;
    }

    /** An alarm 2, axis y being stuck closed. */
    private static StepperTable neverOpen() {
        StepperTable t = Tables.small();
        t.setStuck(1, 2);
        t.home(1);
        return t;
    }

    /** Tables on which nothing may be homed. */
    private static void dueNoHoming(Check.Call onFirst, Check.Call onSecond, Check.Call onThird, Check.Call queued) {
        Check.dueThrow("alarm 1", NO_STATE, onFirst);
        Check.dueThrow("alarm 2", NO_STATE, onSecond);
        Check.dueThrow("alarm 3", NO_STATE, onThird);
        Check.dueThrow("a queue", NO_STATE, queued);
    }

    private static String row(IntFunction<Object> call, int size) {
        StringBuilder all = new StringBuilder();
        for (int i = 0; i < size; i++) {
            all.append(i > 0 ? " " : "").append(call.apply(i));
        }
        return all.toString();
    }

    // ---- promises 1 to 6 ----

    private static void promises01To03(Edges e) {
        e.section("Promise 1");
        e.says("Creates a table as if an empty text was loaded, with an empty input buffer.").holds(() -> {
            StepperTable t = new StepperTable();
            Check.due("snapshot", Tables.snapshot(t), Tables.snapshot(Tables.loaded("")));
            Check.due("a byte of input", t.truncateInput(1), false);
            Check.due("no bytes of input", t.truncateInput(0), true);
            Check.due("output", t.outputByte(0), -1);
            Check.due("undo", t.undo(), -1);
            Check.dueThrow("saved", NO_STATE, t::restoreState);
        });
        e.section("Promise 2");
        e.says("Appends 20 bytes to the input buffer: the four bytes of each parameter, the most significant byte first.")
            .says("- `a`: first four bytes").says("- `b`: next four bytes").says("- `c`: next four bytes")
            .says("- `d`: next four bytes").says("- `e`: last four bytes").holds(() -> {
                StepperTable t = new StepperTable();
                // "detect;start 0009  ;"
                t.appendInput(0x64657465, 0x63743b73, 0x74617274, 0x20303030, 0x3920203b);
                Check.due("load", t.loadTable(), 600);
                Check.due("start", t.count(0), 9);
                Check.due("detection", t.count(2), 1);
                for (int place = 0; place < 20; place++) {
                    int[] words = {0x20202020, 0x20202020, 0x20202020, 0x20202020, 0x20202020};
                    words[place / 4] ^= (0xe9 ^ 0x20) << 8 * (3 - place % 4);
                    t.appendInput(words[0], words[1], words[2], words[3], words[4]);
                    t.loadTable();
                    Check.due("a byte 233 at " + place, t.errorOffset(), place);
                }
            });
        e.says("Returns the new length of the input buffer; -1, with no change, if it would exceed 600.").holds(() -> {
            StepperTable t = new StepperTable();
            for (int length = 20; length <= 600; length += 20) {
                Check.due("length", t.appendInput(0x20202020, 0x0a0a0a0a, 0x20202020, 0x0a0a0a0a, 0x20202020), length);
            }
            Check.due("620", t.appendInput(-1, -1, -1, -1, -1), -1);
            Check.due("still 600", t.truncateInput(600), true);
            Check.due("not 601", t.truncateInput(601), false);
            t.truncateInput(581);
            Check.due("601", t.appendInput(-1, -1, -1, -1, -1), -1);
            Check.due("not 582", t.truncateInput(582), false);
            Check.due("nothing was written", t.loadTable(), 600);
            Tables.write(t, " ".repeat(600));
            t.truncateInput(580);
            Check.due("600", t.appendInput(0x20202020, 0x20202020, 0x20202020, 0x20202020, 0x20202020), 600);
        });
        e.section("Promise 3");
        e.says("Returns true; false, with no change, if length is negative or greater than the current length.").holds(() -> {
            StepperTable t = new StepperTable();
            t.appendInput(0x73746172, 0x7420373b, 0x64657465, 0x63743b78, 0x78787878);
            for (int length : new int[] {-1, 21, LEAST, GREATEST}) {
                Check.due("to " + length, t.truncateInput(length), false);
            }
            Check.due("no change", t.truncateInput(20), true);
            Check.due("to 15", t.truncateInput(15), true);
            Check.due("back to 16", t.truncateInput(16), false);
            Check.due("what is left", t.loadTable(), 600);
            Check.due("both statements", t.count(0) + t.count(2), 8);
            Check.due("to 1 of 0", t.truncateInput(1), false);
            Check.due("to 0 of 0", t.truncateInput(0), true);
            t.appendInput(-1, -1, -1, -1, -1);
            Check.due("to 0", t.truncateInput(0), true);
            Check.due("nothing is left", t.loadTable(), 600);
        });
    }

    private static void promises04To06(Edges e) {
        e.section("Promise 4");
        e.says("Loads a setup from the input buffer and empties the buffer, whether the load succeeds or not.").holds(() -> {
            StepperTable t = new StepperTable();
            Tables.load(t, "start 7;");
            Check.due("emptied by a load", t.truncateInput(1), false);
            Tables.load(t, "start 0;");
            Check.due("emptied by an error", t.truncateInput(1), false);
            Check.due("an empty one can be loaded", t.loadTable(), 600);
            Check.due("and counts", t.count(0), 100);
        });
        e.says("Returns the sum of the lengths of the axes; -1 if there is an error.").holds(() -> {
            StepperTable t = new StepperTable();
            Check.due("least", Tables.load(t, "x 1 0 1 1 0 0;y 1 0 1 1 0 0;z 1 0 1 1 0 0;"), 3);
            Check.due("greatest", Tables.load(t, "x 2000 0 1 1 0 0;y 2000 0 1 1 0 0;z 2000 0 1 1 0 0;"), 6000);
            Check.due("each one", Tables.load(t, "x 1 0 1 1 0 0;y 20 0 1 1 0 0;z 300 0 1 1 0 0;"), 321);
            Check.due("error", Tables.load(t, "x 1 0 1 1 0 0"), -1);
        });
        e.section("Promise 5");
        e.says("Returns the error of the latest call of loadTable.").says("Returns an error code; NO_ERROR if that call "
            + "succeeded or there was no call.").holds(() -> {
                StepperTable t = new StepperTable();
                Check.due("no call", t.errorCode(), StepperTable.NO_ERROR);
                String[] texts = {"q", "start 0;", "detect;detect;", "detect;", "q", ""};
                int[] due = {1, 2, 3, 0, 1, 0};
                for (int i = 0; i < texts.length; i++) {
                    Tables.load(t, texts[i]);
                    Check.due("behind " + texts[i], t.errorCode(), due[i]);
                }
                Tables.load(t, "start 0;");
                Tables.write(t, "q");
                t.saveState();
                t.restoreState();
                t.setStart(5);
                t.undo();
                Check.due("until the next call", t.errorCode(), StepperTable.OUT_OF_RANGE);
            });
        e.section("Promise 6");
        e.says("Returns the offset of the error of the latest call of loadTable.").says("Returns the offset; -1 if errorCode() is "
            + "NO_ERROR.").holds(() -> {
                StepperTable t = new StepperTable();
                Check.due("no call", t.errorOffset(), -1);
                String[] texts = {"q", "start 0;", "detect;detect;", "detect;", "detect", ""};
                int[] due = {0, 6, 7, -1, 6, -1};
                for (int i = 0; i < texts.length; i++) {
                    Tables.load(t, texts[i]);
                    Check.due("behind " + texts[i], t.errorOffset(), due[i]);
                }
                Tables.load(t, "  q");
                t.setStart(5);
                t.undo();
                Check.due("until the next call", t.errorOffset(), 2);
            });
    }

    // ---- promises 7 to 12 ----

    private static void promise07(Edges e) {
        e.section("Promise 7");
        e.says("0 the setting start, 1 and 2 1 if compensation, detection is on, otherwise 0").holds(() -> {
            StepperTable t = new StepperTable();
            Check.due("at first", row(t::count, 3), "100 0 0");
            t.setStart(1);
            t.setCompensation(true);
            Check.due("then", row(t::count, 3), "1 1 0");
            t.setStart(1000);
            t.setCompensation(false);
            t.setDetection(true);
            Check.due("at last", row(t::count, 3), "1000 0 1");
        });
        e.says("3 the alarm (0 if there is none)").holds(() -> {
            Check.due("none", Tables.small().count(3), 0);
            Check.due("1", Tables.alarmed().count(3), 1);
            Check.due("2", neverOpen().count(3), 2);
            Check.due("3", stopped().count(3), 3);
        });
        e.says("4 the moves in the queue, 5 how many axes are homed").holds(() -> {
            StepperTable t = Tables.loaded(Tables.SMALL);
            for (int axis = 0; axis < 3; axis++) {
                Check.due("homed", t.count(5), axis);
                t.home(axis);
            }
            Check.due("all homed", t.count(5), 3);
            Check.due("no moves", t.count(4), 0);
            Check.due("full", Tables.full().count(4), 16);
        });
        e.says("6 the changes that can be undone").holds(() -> {
            StepperTable t = new StepperTable();
            Check.due("none", t.count(6), 0);
            for (int n = 1; n <= 11; n++) {
                t.reset();
            }
            Check.due("at most 10", t.count(6), 10);
            t.undo();
            Check.due("one less", t.count(6), 9);
        });
        e.says("Throws `IllegalArgumentException` if what is out of range").holds(() -> whatRange(6, new StepperTable()::count));
    }

    private static void promise08(Edges e) {
        e.section("Promise 8");
        e.says("0 its length, 1 its backlash, 2 its top speed, 3 its acceleration, 4 its switch position, 5 its hysteresis")
            .holds(() -> {
                StepperTable t = Tables.loaded("x 2000 20 5000 500 1999 19; y 1 0 1 1 0 0;");
                Check.due("x", row(what -> t.axis(0, what), 6), "2000 20 5000 500 1999 19");
                Check.due("y", row(what -> t.axis(1, what), 6), "1 0 1 1 0 0");
                Check.due("z", row(what -> t.axis(2, what), 6), "200 0 1000 100 5 2");
            });
        e.says("6 its true position, 7 its slack, 8 what its motor has counted, 9 its lost steps, 10 how its switch is stuck, 11 1 "
            + "if it is homed, otherwise 0, 12 its latest direction, 1 or -1").holds(() -> {
                StepperTable t = Tables.loaded("x 9 2 1 1 0 0;");
                Check.due("at first", row(what -> t.axis(0, what + 6), 7), "0 0 0 0 0 0 1");
                t.jog(0, -3);
                t.setStuck(0, 1);
                Check.due("backward", row(what -> t.axis(0, what + 6), 7), "0 0 -3 3 1 0 -1");
                t.jog(0, 4);
                t.setStuck(0, 0);
                t.home(0);
                Check.due("homed", row(what -> t.axis(0, what + 6), 7), "1 2 0 3 0 1 1");
            });
        axisRange(e, Tables::small, (t, axis) -> t.axis(axis, 12));
        e.says("Throws `IllegalArgumentException` if what is out of range")
            .holds(() -> whatRange(12, what -> new StepperTable().axis(1, what)));
    }

    /** Each way in which an axis is not homed, or not any more. */
    private static void dueNotHomed(AxisCall call) {
        for (int axis = 0; axis < 3; axis++) {
            int asked = axis;
            Check.dueThrow("never homed", NO_STATE, () -> call.answer(new StepperTable(), asked));
            Check.dueThrow("alarm 3", NO_STATE, () -> call.answer(stopped(), asked));
            StepperTable jogged = Tables.small();
            jogged.jog(axis, 1);
            Check.dueThrow("jogged", NO_STATE, () -> call.answer(jogged, asked));
            dueAnswer("another one jogged", () -> call.answer(jogged, (asked + 1) % 3));
            StepperTable failed = Tables.small();
            failed.setStuck(axis, 1);
            failed.home(axis);
            Check.dueThrow("failed", NO_STATE, () -> call.answer(failed, asked));
            dueAnswer("another one failed", () -> call.answer(failed, (asked + 1) % 3));
            StepperTable reset = Tables.small();
            reset.reset();
            Check.dueThrow("reset", NO_STATE, () -> call.answer(reset, asked));
            StepperTable loaded = Tables.small();
            Tables.load(loaded, "");
            Check.dueThrow("loaded", NO_STATE, () -> call.answer(loaded, asked));
        }
    }

    private static void promises09To12(Edges e) {
        e.section("Promise 9");
        axisRange(e, Tables::small, StepperTable::coordinate);
        e.says("Throws `IllegalStateException` if the axis is not homed").holds(() -> dueNotHomed(StepperTable::coordinate));
        e.section("Promise 10");
        e.says("Returns the error, perhaps negative.").holds(() -> {
            StepperTable t = queued("x 9 2 9 9 0 0;", at(9, 0, 0), at(8, 0, 0), at(6, 0, 0));
            int[] due = {-1, 0, 1};
            Check.due("homed", t.error(0), 0);
            for (int error : due) {
                t.run(1);
                Check.due("at " + t.coordinate(0), t.error(0), error);
            }
        });
        axisRange(e, Tables::small, StepperTable::error);
        e.says("Throws `IllegalStateException` if the axis is not homed").holds(() -> dueNotHomed(StepperTable::error));
        e.section("Promise 11");
        e.says("Returns true if it does.").holds(() -> {
            StepperTable t = Tables.loaded("begin 5 6 8;");
            Check.due("at the switch position", t.readsClosed(0), true);
            Check.due("behind it", t.readsClosed(1), false);
            Check.due("behind its hysteresis", t.readsClosed(2), false);
        });
        axisRange(e, StepperTable::new, StepperTable::readsClosed);
        e.section("Promise 12");
        e.says("Returns the time that has passed since the load.").says("Returns the sum of what all steps have lasted.")
            .holds(() -> {
                StepperTable t = Tables.loaded("x 9 2 10 9 0 0; start 1;");
                Check.due("at first", t.time(), 0L);
                t.jog(0, 1);
                Check.due("a step of jogging", t.time(), 1000000L);
                t.home(0);
                Check.due("homing forward", t.time(), 1000000L + 2 * 4000000);
                t.home(1);
                t.home(2);
                t.setCompensation(true);
                t.queue(1, 0, 0);
                t.queue(0, 0, 0);
                t.queue(0, 0, 1);
                long before = t.time();
                t.runAll();
                Check.due("three steps, two of compensation", t.time() - before, 5000000L);
                for (int n = 0; n < 25; n++) {
                    t.jog(0, 100);
                }
                Check.due("lost ones too, and beyond an int", t.time() - before, 2505000000L);
                Tables.load(t, "");
                Check.due("behind a load", t.time(), 0L);
            });
    }

    // ---- promises 13 to 17 ----

    private static void promises13And14(Edges e) {
        e.section("Promise 13");
        e.says("This is a change, also if there is an alarm then.").holds(() -> {
            StepperTable t = Tables.loaded(Tables.SMALL);
            dueChange("homing", t, () -> t.home(0));
            t.setStuck(0, 1);
            dueChange("alarm 1", t, () -> t.home(0));
            t.setStuck(0, 2);
            dueChange("alarm 2", t, () -> t.home(0));
        });
        e.says("Returns the number of steps that the motor makes; -1 if there is an alarm then.").holds(() -> {
            Check.due("one step", Tables.loaded("x 9 0 1 1 0 0;").home(0), 1);
            Check.due("both parts", Tables.loaded(Tables.SMALL).home(0), 9);
            StepperTable t = Tables.loaded(Tables.SMALL);
            t.setStuck(0, 1);
            Check.due("alarm 1", t.home(0), -1);
            t.reset();
            t.setStuck(0, 2);
            Check.due("alarm 2", t.home(0), -1);
        });
        axisRange(e, Tables::small, StepperTable::home);
        e.says("Throws `IllegalStateException` if there is an alarm, or the queue is not empty").holds(() -> {
            dueNoHoming(() -> Tables.alarmed().home(0), () -> neverOpen().home(0), () -> stopped().home(0),
                () -> Tables.smallWithQueue().home(0));
            StepperTable t = stopped();
            t.reset();
            dueAnswer("reset", () -> t.home(0));
            StepperTable emptied = Tables.losing();
            emptied.unqueue();
            dueAnswer("emptied", () -> emptied.home(0));
        });
        e.section("Promise 14");
        e.says("Makes single steps with an axis, each of which lasts 1000000 / start, rounded down; the axis is not homed any more "
            + "if it was.").holds(() -> {
                StepperTable t = Tables.small();
                t.setStart(300);
                long before = t.time();
                t.jog(0, 3);
                Check.due("three steps of 3333", t.time() - before, 9999L);
                Check.due("x", t.axis(0, 11), 0);
                Check.due("the others", t.count(5), 2);
                t.jog(0, -1);
                Check.due("not homed before", t.axis(0, 11), 0);
            });
        e.says("Lost steps are not detected.").holds(() -> {
            StepperTable t = Tables.loaded("x 9 0 1 1 0 0; detect;");
            Check.due("true position", t.jog(0, -100), 0);
            Check.due("lost", t.axis(0, 9), 100);
            Check.due("no alarm", t.count(3), 0);
            Check.due("forward", t.jog(0, 100), 9);
            Check.due("no alarm then", t.count(3), 0);
        });
        e.says("This is a change, also if there is an alarm, which stays.").holds(() -> {
            StepperTable[] alarms = {Tables.alarmed(), neverOpen(), stopped()};
            for (int i = 0; i < 3; i++) {
                StepperTable t = alarms[i];
                dueChange("alarm " + (i + 1), t, () -> t.jog(1, 1));
                t.jog(1, -1);
                Check.due("it stays", t.count(3), i + 1);
            }
            StepperTable t = Tables.small();
            dueChange("without an alarm", t, () -> t.jog(0, 100));
        });
        axisRange(e, Tables::small, (t, axis) -> t.jog(axis, 1));
        e.says("- `steps`: -100 to 100, not 0; negative ones go backward").says("Returns its true position then.").says("Throws "
            + "`IllegalArgumentException` if steps is out of range").holds(() -> {
                StepperTable t = Tables.loaded("x 500 2 1 1 0 0; begin 200 0 0;");
                Check.due("100 steps", t.jog(0, 100), 298);
                Check.due("-100 steps", t.jog(0, -100), 200);
                Check.due("1 step, in the slack", t.jog(0, 1), 200);
                Check.due("2 steps", t.jog(0, 2), 201);
                Check.due("-1 step, in the slack", t.jog(0, -1), 201);
                for (int steps : new int[] {0, 101, -101, LEAST, GREATEST}) {
                    Check.dueThrow(steps + " steps", NO_ARGUMENT, () -> t.jog(0, steps));
                }
            });
        e.says("Throws `IllegalStateException` if the queue is not empty").holds(() -> {
            StepperTable t = Tables.losing();
            Check.dueThrow("one move", NO_STATE, () -> t.jog(0, 1));
            t.runAll();
            dueAnswer("none", () -> t.jog(0, 1));
        });
    }

    /** States in which no target is taken, whatever it is. */
    private static void dueNoTarget(PointCall call) {
        Check.dueThrow("alarm 1", NO_STATE, () -> call.answer(Tables.alarmed(), 1, 1, 1));
        Check.dueThrow("alarm 2", NO_STATE, () -> call.answer(neverOpen(), 1, 1, 1));
        Check.dueThrow("alarm 3", NO_STATE, () -> call.answer(stopped(), 1, 1, 1));
        for (int axis = 0; axis < 3; axis++) {
            StepperTable t = Tables.small();
            t.jog(axis, 1);
            Check.dueThrow("not homed: " + axis, NO_STATE, () -> call.answer(t, 1, 1, 1));
        }
        Check.dueThrow("16 targets", NO_STATE, () -> call.answer(Tables.full(), 50, 0, 0));
        StepperTable last = Tables.full();
        last.run(1);
        dueAnswer("15 targets", () -> call.answer(last, 50, 0, 0));
    }

    private static void promises15And16(Edges e) {
        e.section("Promise 15");
        e.says("Puts a target at the end of the queue.").says("Returns the number of moves in the queue.").holds(() -> {
            StepperTable t = Tables.quick();
            for (int n = 1; n <= 16; n++) {
                Check.due("moves", t.queue(n, 0, 0), n);
                Check.due("the last one", t.target(n - 1, 0), n);
                Check.due("the first one", t.target(0, 0), 1);
            }
        });
        e.says("This is a change.").holds(() -> {
            StepperTable t = Tables.small();
            dueChange("the first target", t, () -> t.queue(1, 1, 1));
            StepperTable full = Tables.quick();
            for (int n = 1; n <= 15; n++) {
                full.queue(n, 0, 0);
            }
            full.undo();
            dueChange("another one", full, () -> full.queue(50, 0, 0));
        });
        e.says("- `x`: coordinate, 0 to the length of the axis").says("- `y`: likewise").says("- `z`: likewise").says("Throws "
            + "`IllegalArgumentException` if a coordinate is out of range").holds(() -> pointRange(StepperTable::queue));
        e.says("Throws `IllegalStateException` if there is an alarm, an axis is not homed, the queue holds 16 targets")
            .holds(() -> dueNoTarget(StepperTable::queue));
        e.says("or the target is the point at which the last move ends (without moves: where the axes are)").holds(() -> {
            StepperTable t = Tables.small();
            Check.dueThrow("where the axes are", NO_STATE, () -> t.queue(0, 0, 0));
            t.queue(10, 5, 1);
            Check.dueThrow("the end of the last move", NO_STATE, () -> t.queue(10, 5, 1));
            for (int[] p : new int[][] {{11, 5, 1}, {10, 6, 1}, {10, 5, 2}, {0, 0, 0}}) {
                dueAnswer("one that differs", () -> t.queue(p[0], p[1], p[2]));
            }
            dueAnswer("the end of an earlier move", () -> t.queue(10, 5, 1));
            t.runAll();
            Check.dueThrow("where the axes have come", NO_STATE, () -> t.queue(10, 5, 1));
            dueAnswer("where they were", () -> t.queue(0, 0, 0));
        });
        e.section("Promise 16");
        e.says("Takes the last target out of the queue.").says("Returns the number of moves in the queue.").holds(() -> {
            StepperTable t = Tables.full();
            for (int left = 15; left >= 0; left--) {
                Check.due("left", t.unqueue(), left);
                if (left > 0) {
                    Check.due("the last one now", t.target(left - 1, 0), left);
                }
            }
        });
        e.says("This is a change.").holds(() -> {
            StepperTable t = Tables.losing();
            dueChange("the only one", t, t::unqueue);
        });
        e.says("Throws `NoSuchElementException` if the queue is empty").holds(() -> {
            Check.dueThrow("homed", NO_ELEMENT, () -> Tables.small().unqueue());
            Check.dueThrow("not homed", NO_ELEMENT, () -> new StepperTable().unqueue());
            Check.dueThrow("stopped", NO_ELEMENT, () -> stopped().unqueue());
            StepperTable t = Tables.losing();
            t.unqueue();
            Check.dueThrow("emptied", NO_ELEMENT, t::unqueue);
        });
    }

    private static void promise17(Edges e) {
        e.section("Promise 17");
        e.says("Makes the first moves of the queue, as planned now for the whole queue.").holds(() -> {
            StepperTable alone = queued(Tables.QUICK, at(3, 0, 0));
            long before = alone.time();
            alone.run(1);
            Check.due("100, 200 and 100 a second", alone.time() - before, 10000L + 5000 + 10000);
            StepperTable first = queued(Tables.QUICK, at(3, 0, 0), at(9, 0, 0));
            before = first.time();
            first.run(1);
            Check.due("100, 200 and 300 a second, with another one behind it", first.time() - before, 10000L + 5000 + 3333);
            before = first.time();
            first.run(1);
            Check.due("the rest begins anew", first.time() - before, 2 * (10000L + 5000 + 3333));
        });
        e.says("They are taken out of it.").holds(() -> {
            StepperTable t = Tables.full();
            t.run(15);
            Check.due("moves", t.count(4), 1);
            Check.due("the last one", t.target(0, 0), 16);
            Check.due("where the axes are", t.coordinate(0), 15);
            t.run(1);
            Check.due("none", t.count(4), 0);
        });
        e.says("This is a change.").holds(() -> {
            StepperTable t = Tables.smallWithQueue();
            dueChange("one move", t, () -> t.run(1));
            dueChange("both moves", t, () -> t.run(2));
            t.setDetection(true);
            t.queue(95, 0, 0);
            dueChange("with an alarm then", t, () -> t.run(3));
        });
        e.says("- `moves`: 1 to 16").says("Throws `IllegalArgumentException` if moves is out of range").holds(() -> {
            for (int moves : new int[] {0, -1, 17, LEAST, GREATEST}) {
                Check.dueThrow(moves + " moves", NO_ARGUMENT, () -> Tables.full().run(moves));
                Check.dueThrow(moves + " moves of none", NO_ARGUMENT, () -> Tables.small().run(moves));
            }
            Check.due("1 move", Tables.full().run(1), 1);
            Check.due("16 moves", Tables.full().run(16), 16);
        });
        e.says("Returns the number of moves that were made to their end; it is less than moves if there is the alarm 3 then.")
            .holds(() -> {
                String text = "x 9 0 100 10 0 0; detect;";
                StepperTable t = queued(text, at(8, 0, 0), at(7, 0, 0), at(9, 0, 0));
                Check.due("two of three", t.run(3), 2);
                Check.due("alarm", t.count(3), 3);
                StepperTable ahead = queued(text, at(8, 0, 0), at(7, 0, 0), at(9, 0, 0));
                Check.due("the two ahead of it", ahead.run(2), 2);
                Check.due("no alarm", ahead.count(3), 0);
                Check.due("the third one alone", ahead.run(1), 0);
                Check.due("alarm then", ahead.count(3), 3);
                Check.due("lost by the very last step", ahead.axis(0, 9), 1);
            });
        e.says("Throws `NoSuchElementException` if the queue holds fewer moves").holds(() -> {
            Check.dueThrow("1 of none", NO_ELEMENT, () -> Tables.small().run(1));
            Check.dueThrow("3 of 2", NO_ELEMENT, () -> Tables.smallWithQueue().run(3));
            Check.dueThrow("16 of 2", NO_ELEMENT, () -> Tables.smallWithQueue().run(16));
            Check.due("2 of 2", Tables.smallWithQueue().run(2), 2);
        });
    }

    // ---- promises 18 to 23 ----

    private static void promises18To20(Edges e) {
        e.section("Promise 18");
        e.says("Resets the alarm: there is none then, the queue is empty, and no axis is homed.").holds(() -> {
            for (StepperTable t : new StepperTable[] {Tables.alarmed(), neverOpen(), stopped(), Tables.full(), Tables.small()}) {
                t.reset();
                Check.due("alarm, moves, homed axes", row(what -> t.count(what + 3), 3), "0 0 0");
                dueAnswer("homing", t::homeAll);
            }
        });
        e.says("This is a change.").holds(() -> {
            StepperTable full = Tables.smallWithQueue();
            dueChange("with a queue", full, full::reset);
            StepperTable alarmed = Tables.alarmed();
            dueChange("with an alarm", alarmed, alarmed::reset);
            StepperTable fresh = new StepperTable();
            dueChange("with nothing", fresh, fresh::reset);
        });
        e.says("Returns the alarm before, 0 if there was none.").holds(() -> {
            Check.due("none", Tables.smallWithQueue().reset(), 0);
            Check.due("1", Tables.alarmed().reset(), 1);
            Check.due("2", neverOpen().reset(), 2);
            StepperTable t = stopped();
            Check.due("3", t.reset(), 3);
            Check.due("none any more", t.reset(), 0);
        });
        e.section("Promise 19");
        e.says("Sets whether compensation is on.").says("Returns whether it was on before.").holds(() -> {
            StepperTable t = Tables.loaded("compensate;");
            boolean[] on = {true, false, false, true, true};
            boolean[] before = {true, true, false, false, true};
            for (int i = 0; i < on.length; i++) {
                Check.due("before", t.setCompensation(on[i]), before[i]);
                Check.due("now", t.count(1), on[i] ? 1 : 0);
                Check.due("detection", t.count(2), 0);
            }
        });
        e.says("This is a change.").holds(() -> {
            StepperTable t = new StepperTable();
            dueChange("on", t, () -> t.setCompensation(true));
            dueChange("as it was", t, () -> t.setCompensation(false));
        });
        e.section("Promise 20");
        e.says("Sets whether detection is on.").says("Returns whether it was on before.").holds(() -> {
            StepperTable t = Tables.loaded("detect;");
            boolean[] on = {true, false, false, true, true};
            boolean[] before = {true, true, false, false, true};
            for (int i = 0; i < on.length; i++) {
                Check.due("before", t.setDetection(on[i]), before[i]);
                Check.due("now", t.count(2), on[i] ? 1 : 0);
                Check.due("compensation", t.count(1), 0);
            }
        });
        e.says("This is a change.").holds(() -> {
            StepperTable t = new StepperTable();
            dueChange("on", t, () -> t.setDetection(true));
            dueChange("as it was", t, () -> t.setDetection(false));
        });
    }

    private static void promises21To23(Edges e) {
        e.section("Promise 21");
        e.says("This is a change.").holds(() -> {
            StepperTable t = new StepperTable();
            dueChange("open", t, () -> t.setStuck(0, 1));
            dueChange("as it was", t, () -> t.setStuck(0, 0));
        });
        axisRange(e, Tables::small, (t, axis) -> t.setStuck(axis, 2));
        e.says("- `how`: 0 not, 1 it reads open, 2 it reads closed").says("Returns how it was stuck before.").holds(() -> {
            StepperTable t = Tables.loaded("begin 200 0 200;");
            int[] how = {1, 2, 2, 0, 0, 1};
            int[] before = {0, 1, 2, 2, 0, 0};
            boolean[] closed = {false, true, true, true, true, false};
            for (int i = 0; i < how.length; i++) {
                Check.due("before", t.setStuck(1, how[i]), before[i]);
                Check.due("it reads closed", t.readsClosed(1), closed[i]);
                Check.due("x reads closed", t.readsClosed(0), false);
                Check.due("z is not stuck", t.axis(2, 10), 0);
            }
        });
        e.says("Throws `IllegalArgumentException` if how is out of range").holds(() -> {
            StepperTable t = new StepperTable();
            for (int how : new int[] {-1, 3, LEAST, GREATEST}) {
                Check.dueThrow("how " + how, NO_ARGUMENT, () -> t.setStuck(0, how));
            }
            Check.due("unchanged", t.axis(0, 10), 0);
        });
        e.section("Promise 22");
        e.says("This is a change.").holds(() -> {
            StepperTable t = Tables.smallWithQueue();
            dueChange("another one", t, () -> t.setStart(1000));
            dueChange("as it was", t, () -> t.setStart(100));
        });
        e.says("- `start`: 1 to 1000").says("Returns the setting before.").says("Throws `IllegalArgumentException` if start is out "
            + "of range").holds(() -> {
                StepperTable t = new StepperTable();
                Check.due("before", t.setStart(1), 100);
                Check.due("before", t.setStart(1000), 1);
                for (int start : new int[] {0, -1, 1001, LEAST, GREATEST}) {
                    Check.dueThrow("start " + start, NO_ARGUMENT, () -> t.setStart(start));
                }
                Check.due("unchanged", t.setStart(500), 1000);
            });
        e.section("Promise 23");
        e.says("- `move`: number of a move of the queue, from 0").says("Throws `IndexOutOfBoundsException` if there is no such move "
            + "or axis").holds(() -> moveEdges((t, move) -> t.target(move, 2)));
        e.says("- `axis`: 0 to 2").holds(() -> {
            StepperTable t = queued(Tables.SMALL, at(10, 5, 1), at(100, 50, 20));
            Check.due("first", row(axis -> t.target(0, axis), 3), "10 5 1");
            Check.due("second", row(axis -> t.target(1, axis), 3), "100 50 20");
            for (int axis : new int[] {-1, 3, LEAST, GREATEST}) {
                Check.dueThrow("axis " + axis, NO_INDEX, () -> t.target(0, axis));
            }
        });
    }

    // ---- promises 24 to 27 ----

    private static void promise24(Edges e) {
        e.section("Promise 24");
        e.says("Returns a property of a move of the queue, as planned now.").holds(() -> {
            StepperTable t = queued(Tables.QUICK, at(3, 0, 0));
            Check.due("alone", row(what -> t.move(0, what), 8), "3 1000 100 100 100 200 1 0");
            t.queue(6, 0, 0);
            Check.due("with one behind it", row(what -> t.move(0, what), 8), "3 1000 100 100 400 300 1 1");
            t.setStart(1000);
            Check.due("with another start", row(what -> t.move(0, what), 8), "3 1000 100 1000 1000 1000 3 1");
            t.unqueue();
            Check.due("alone again", row(what -> t.move(0, what), 8), "3 1000 100 1000 1000 1000 3 0");
        });
        moveRange(e, (t, move) -> t.move(move, 7));
        e.says("5 its greatest speed, 6 the steps with its greatest speed").holds(() -> {
            StepperTable even = queued(Tables.QUICK, at(4, 0, 0));
            Check.due("of 100, 200, 200, 100", even.move(0, 5) + " " + even.move(0, 6), "200 2");
            StepperTable cruise = queued("x 100 0 150 100 0 0;", at(4, 0, 0));
            Check.due("of 100, 150, 150, 100", cruise.move(0, 5) + " " + cruise.move(0, 6), "150 2");
            StepperTable one = queued(Tables.QUICK, at(1, 0, 0));
            Check.due("of one step", one.move(0, 5) + " " + one.move(0, 6), "100 1");
            StepperTable slow = queued("x 100 0 1 100 0 0;", at(7, 0, 0));
            Check.due("of seven steps of 1", slow.move(0, 5) + " " + slow.move(0, 6), "1 7");
            StepperTable down = queued("x 100 0 100 10 0 0; z 100 0 7 10 0 0;", at(3, 0, 0), at(3, 0, 1));
            Check.due("of 27, 17 and 7", down.move(0, 5) + " " + down.move(0, 6), "27 1");
        });
        e.says("7 1 if the next move goes on straight, otherwise 0").holds(() -> {
            StepperTable t = queued(Tables.QUICK, at(1, 1, 0), at(3, 3, 0), at(4, 5, 0), at(3, 3, 0));
            Check.due("1, 2, a bend, back, the last one", row(move -> t.move(move, 7), 4), "1 0 0 0");
            StepperTable full = Tables.full();
            Check.due("15th", full.move(14, 7), 1);
            Check.due("16th", full.move(15, 7), 0);
        });
        e.says("Throws `IllegalArgumentException` if what is out of range")
            .holds(() -> whatRange(7, what -> Tables.losing().move(0, what)));
    }

    private static void promises25And26(Edges e) {
        e.section("Promise 25");
        e.says("Returns the speed of a step of a move of the queue, as planned now.").holds(() -> {
            StepperTable t = queued(Tables.QUICK, at(4, 0, 0));
            Check.due("alone", row(step -> t.speed(0, step), 4), "100 200 200 100");
            t.queue(8, 0, 0);
            Check.due("with one behind it", row(step -> t.speed(0, step), 4), "100 200 300 400");
            Check.due("which slows down", row(step -> t.speed(1, step), 4), "400 300 200 100");
        });
        moveRange(e, (t, move) -> t.speed(move, 0));
        e.says("- `step`: number of the step, from 0").says("Throws `NoSuchElementException` if it has no such step").holds(() -> {
            StepperTable t = queued(Tables.QUICK, at(4, 0, 0), at(4, 1, 0));
            for (int step : new int[] {-1, 4, LEAST, GREATEST}) {
                Check.dueThrow("step " + step + " of 4", NO_ELEMENT, () -> t.speed(0, step));
            }
            dueAnswer("step 3 of 4", () -> t.speed(0, 3));
            dueAnswer("step 0 of 1", () -> t.speed(1, 0));
            Check.dueThrow("step 1 of 1", NO_ELEMENT, () -> t.speed(1, 1));
        });
        e.section("Promise 26");
        e.says("Returns how many steps an axis has made behind some steps of a move of the queue.").says("Returns the number of its "
            + "steps, 0 or more.").holds(() -> {
                StepperTable t = queued(Tables.QUICK, at(5, 2, 0), at(0, 0, 0));
                for (int move = 0; move < 2; move++) {
                    int asked = move;
                    Check.due("x", row(k -> t.stepsBehind(asked, 0, k), 6), "0 1 2 3 4 5");
                    Check.due("y", row(k -> t.stepsBehind(asked, 1, k), 6), "0 0 1 1 2 2");
                    Check.due("z", row(k -> t.stepsBehind(asked, 2, k), 6), "0 0 0 0 0 0");
                }
            });
        stepRange(e, StepperTable::stepsBehind);
    }

    private static void stepRange(Edges e, PointCall call) {
        e.says("- `move`: number of a move of the queue, from 0").says("Throws `IndexOutOfBoundsException` if there is no such move "
            + "or axis").holds(() -> moveEdges((t, move) -> call.answer(t, move, 0, 0)));
        e.says("- `axis`: 0 to 2").holds(() -> {
            StepperTable t = queued(Tables.QUICK, at(5, 2, 0));
            for (int axis = 0; axis < 3; axis++) {
                int asked = axis;
                dueAnswer("axis " + axis, () -> call.answer(t, 0, asked, 1));
            }
            for (int axis : new int[] {-1, 3, LEAST, GREATEST}) {
                Check.dueThrow("axis " + axis, NO_INDEX, () -> call.answer(t, 0, axis, 1));
            }
        });
        e.says("- `steps`: 0 to the lead of the move").says("Throws `IllegalArgumentException` if steps is out of range")
            .holds(() -> {
                StepperTable t = queued(Tables.QUICK, at(5, 2, 0), at(5, 3, 0));
                for (int axis = 0; axis < 3; axis++) {
                    int asked = axis;
                    dueAnswer("0 of 5", () -> call.answer(t, 0, asked, 0));
                    dueAnswer("5 of 5", () -> call.answer(t, 0, asked, 5));
                    dueAnswer("1 of 1", () -> call.answer(t, 1, asked, 1));
                    Check.dueThrow("2 of 1", NO_ARGUMENT, () -> call.answer(t, 1, asked, 2));
                    for (int steps : new int[] {-1, 6, LEAST, GREATEST}) {
                        Check.dueThrow(steps + " of 5", NO_ARGUMENT, () -> call.answer(t, 0, asked, steps));
                    }
                }
            });
    }

    private static void promise27(Edges e) {
        e.section("Promise 27");
        e.says("Returns the deviation of a move of the queue from its line: the greatest difference, over all its steps and axes, "
            + "between what an axis has made behind k steps and k * |distance| / lead, a quotient of two numbers that are converted "
            + "to float.").says("Returns the greatest absolute difference, a float.").holds(() -> {
                StepperTable t = queued("x 2000 0 9 9 0 0; y 2000 0 9 9 0 0; z 2000 0 9 9 0 0;", at(1, 1, 0), at(4, 2, 0),
                    at(2, 1, 0), at(5, 3, 1), at(0, 0, 0), at(10, 7, 3));
                float[] due = {0.0f, 1.0f / 3.0f, 0.5f, 1.0f / 3.0f, 0.0f, 0.5f};
                // the fifth move: 5, 3 and 1 steps, the fourth one: 3, 2 and 1
                due[4] = greatest(Math.abs(1 - 3.0f / 5.0f), Math.abs(1 - 6.0f / 5.0f), Math.abs(2 - 9.0f / 5.0f),
                    Math.abs(2 - 12.0f / 5.0f), Math.abs(0 - 2.0f / 5.0f), Math.abs(1 - 3.0f / 5.0f));
                due[3] = greatest(Math.abs(1 - 2.0f / 3.0f), Math.abs(1 - 4.0f / 3.0f), Math.abs(0 - 1.0f / 3.0f));
                for (int move = 0; move < due.length; move++) {
                    Check.due("move " + move, t.deviation(move), due[move]);
                }
                for (int axis = 0; axis < 3; axis++) {
                    int[] to = {0, 0, 0};
                    to[axis] = 1;
                    to[(axis + 1) % 3] = 3;
                    Check.due("the axis " + axis + " alone deviates", queued(Tables.QUICK, to).deviation(0), 1.0f / 3.0f);
                }
                StepperTable far = queued("x 2000 0 9 9 0 0; y 2000 0 9 9 0 0;", at(2000, 1999, 0));
                Check.due("1000 steps of 1999 of 2000", far.deviation(0), 1000 - 1999000.0f / 2000.0f);
            });
        moveRange(e, StepperTable::deviation);
    }

    private static float greatest(float... all) {
        float greatest = 0.0f;
        for (float one : all) {
            greatest = one > greatest ? one : greatest;
        }
        return greatest;
    }

    // ---- promises 28 to 32 ----

    private static void promises28And29(Edges e) {
        e.section("Promise 28");
        e.says("Homes all axes: z, then y, then x, as long as there is no alarm (see home).").holds(() -> {
            String[] homed = {"0 1 1", "0 0 1", "0 0 0"};
            String[] failed = {"1 0 0", "0 1 0", "0 0 1"};
            for (int stuck = 0; stuck < 3; stuck++) {
                StepperTable t = Tables.loaded(Tables.SMALL);
                t.setStuck(stuck, 1 + stuck % 2);
                t.homeAll();
                Check.due("homed, " + stuck + " being stuck", row(axis -> t.axis(axis, 11), 3), homed[stuck]);
                Check.due("homings that failed", row(axis -> t.account(axis, 4), 3), failed[stuck]);
                Check.due("alarm", t.count(3), 1 + stuck % 2);
                if (stuck > 0) {
                    Check.due("x was not moved", t.axis(0, 8), 0);
                }
            }
        });
        e.says("This is one change.").holds(() -> {
            StepperTable t = Tables.loaded(Tables.SMALL);
            dueChange("homing", t, t::homeAll);
            t.setStuck(1, 1);
            dueChange("with an alarm then", t, t::homeAll);
        });
        e.says("Returns the number of steps that the motors make; -1 if there is an alarm then.").holds(() -> {
            Check.due("9 + 6 + 4", Tables.loaded(Tables.SMALL).homeAll(), 19);
            Check.due("1 + 1 + 1", Tables.loaded(Tables.QUICK).homeAll(), 3);
            for (int stuck = 0; stuck < 3; stuck++) {
                StepperTable t = Tables.loaded(Tables.SMALL);
                t.setStuck(stuck, 1);
                Check.due("never closed: " + stuck, t.homeAll(), -1);
            }
        });
        e.says("Throws `IllegalStateException` if there is an alarm, or the queue is not empty")
            .holds(() -> dueNoHoming(() -> Tables.alarmed().homeAll(), () -> neverOpen().homeAll(), () -> stopped().homeAll(),
                () -> Tables.losing().homeAll()));
        e.section("Promise 29");
        e.says("Makes all moves of the queue (see run).").says("Returns the number of moves that were made to their end.").holds(() -> {
            Check.due("none", Tables.small().runAll(), 0);
            Check.due("two", Tables.smallWithQueue().runAll(), 2);
            StepperTable full = Tables.full();
            Check.due("16", full.runAll(), 16);
            Check.due("the queue then", full.count(4), 0);
            Check.due("the coordinate then", full.coordinate(0), 16);
            StepperTable t = queued("x 9 0 100 10 0 0; detect;", at(8, 0, 0), at(9, 0, 0), at(8, 0, 0));
            Check.due("one of three", t.runAll(), 1);
            Check.due("none with an alarm", t.runAll(), 0);
            Check.due("which stays", t.count(3), 3);
        });
        e.says("This is a change, also if the queue is empty.").holds(() -> {
            StepperTable t = Tables.smallWithQueue();
            dueChange("two moves", t, t::runAll);
            StepperTable empty = Tables.small();
            dueChange("none", empty, empty::runAll);
            StepperTable fresh = new StepperTable();
            dueChange("none, not homed", fresh, fresh::runAll);
        });
    }

    private static void promise30(Edges e) {
        e.section("Promise 30");
        e.says("Puts a target into the queue.").says("Returns the number of moves in the queue.").holds(() -> {
            StepperTable t = Tables.quick();
            Check.due("first", t.insert(0, 3, 0, 0), 1);
            Check.due("ahead of it", t.insert(0, 1, 0, 0), 2);
            Check.due("between them", t.insert(1, 2, 0, 0), 3);
            Check.due("behind them", t.insert(3, 4, 0, 0), 4);
            Check.due("their order", row(move -> t.target(move, 0), 4), "1 2 3 4");
            StepperTable full = Tables.full();
            full.unqueue();
            Check.due("the 16th", full.insert(0, 50, 50, 20), 16);
            Check.due("the last one", full.target(15, 0), 15);
        });
        e.says("This is a change.").holds(() -> {
            StepperTable t = Tables.smallWithQueue();
            dueChange("ahead", t, () -> t.insert(0, 3, 0, 0));
            dueChange("behind", t, () -> t.insert(2, 3, 0, 0));
        });
        e.says("- `move`: the number that it gets, 0 to the number of moves in the queue").says("- `x`: coordinate, 0 to the length of "
            + "the axis").says("- `y`: likewise").says("- `z`: likewise").says("Throws `IllegalArgumentException` if move or a "
            + "coordinate is out of range").holds(() -> {
                pointRange((t, x, y, z) -> t.insert(0, x, y, z));
                for (int move : new int[] {-1, 3, 16, LEAST, GREATEST}) {
                    Check.dueThrow("move " + move, NO_ARGUMENT, () -> Tables.smallWithQueue().insert(move, 1, 1, 1));
                }
                for (int move = 0; move <= 2; move++) {
                    StepperTable t = Tables.smallWithQueue();
                    t.insert(move, 1, 1, 1);
                    Check.due("its number", Tables.target(t, move), "1,1,1");
                }
                Check.dueThrow("1 of none", NO_ARGUMENT, () -> Tables.small().insert(1, 1, 1, 1));
                Check.dueThrow("17 of 16", NO_ARGUMENT, () -> Tables.full().insert(17, 50, 1, 1));
                Check.dueThrow("16 of 16", NO_STATE, () -> Tables.full().insert(16, 50, 1, 1));
            });
        e.says("Throws `IllegalStateException` if there is an alarm, an axis is not homed, the queue holds 16 targets")
            .holds(() -> dueNoTarget((t, x, y, z) -> t.insert(0, x, y, z)));
        e.says("or a move would lead nowhere then").holds(() -> {
            StepperTable t = Tables.smallWithQueue();
            Check.dueThrow("where the axes are", NO_STATE, () -> t.insert(0, 0, 0, 0));
            Check.dueThrow("like the one behind, ahead", NO_STATE, () -> t.insert(0, 10, 5, 0));
            Check.dueThrow("like the one ahead", NO_STATE, () -> t.insert(1, 10, 5, 0));
            Check.dueThrow("like the one behind", NO_STATE, () -> t.insert(1, 20, 10, 0));
            Check.dueThrow("like the last one", NO_STATE, () -> t.insert(2, 20, 10, 0));
            dueAnswer("like the last but one, at the end", () -> t.insert(2, 10, 5, 0));
            dueAnswer("where the axes are, at the end", () -> t.insert(3, 0, 0, 0));
            StepperTable empty = Tables.small();
            Check.dueThrow("without moves", NO_STATE, () -> empty.insert(0, 0, 0, 0));
            for (int[] p : new int[][] {{1, 0, 0}, {0, 1, 0}, {0, 0, 1}}) {
                dueAnswer("one axis alone moves", () -> empty.insert(0, p[0], p[1], p[2]));
            }
        });
    }

    private static void promises31And32(Edges e) {
        e.section("Promise 31");
        e.says("Takes a target out of the queue.").says("Returns the number of moves in the queue.").holds(() -> {
            StepperTable t = Tables.full();
            Check.due("the last one", t.dropTarget(15), 15);
            Check.due("the first one", t.dropTarget(0), 14);
            Check.due("one between", t.dropTarget(5), 13);
            Check.due("those that are left", row(move -> t.target(move, 0), 13), "2 3 4 5 6 8 9 10 11 12 13 14 15");
            StepperTable one = Tables.losing();
            Check.due("the only one", one.dropTarget(0), 0);
        });
        e.says("This is a change.").holds(() -> {
            StepperTable t = Tables.smallWithQueue();
            dueChange("the first one", t, () -> t.dropTarget(0));
            dueChange("the last one", t, () -> t.dropTarget(1));
        });
        moveRange(e, StepperTable::dropTarget);
        e.says("Throws `IllegalStateException` if a move would lead nowhere then").holds(() -> {
            StepperTable t = queued(Tables.QUICK, at(5, 0, 0), at(0, 0, 0), at(5, 0, 0), at(7, 0, 0));
            Check.dueThrow("the next one is where the axes are", NO_STATE, () -> t.dropTarget(0));
            Check.dueThrow("both beside it are the same", NO_STATE, () -> t.dropTarget(1));
            dueAnswer("another one", () -> t.dropTarget(2));
            dueAnswer("the last one", () -> t.dropTarget(2));
            dueAnswer("the last one again", () -> t.dropTarget(1));
        });
        e.section("Promise 32");
        e.says("Exchanges two targets of the queue.").says("Returns the number of moves that go on straight with the next one then.")
            .holds(() -> {
                StepperTable t = Tables.full();
                Check.due("itself", t.swapTargets(3, 3), 15);
                Check.due("first and last: 16 forward, 14 back, 13 times 1, 14 back", t.swapTargets(0, 15), 12);
                Check.due("first", t.target(0, 0), 16);
                Check.due("last", t.target(15, 0), 1);
                Check.due("back", t.swapTargets(15, 0), 15);
                StepperTable two = queued(Tables.QUICK, at(1, 0, 0), at(3, 0, 0));
                Check.due("one pair goes on straight before", two.straightPairs(), 1);
                Check.due("none then", two.swapTargets(1, 0), 0);
                StepperTable one = Tables.losing();
                Check.due("the only one", one.swapTargets(0, 0), 0);
                StepperTable asked = Tables.smallWithQueue();
                asked.straightTime(50, 50, 20);
                Check.due("behind a question about another target", asked.swapTargets(0, 1), 0);
                Check.due("the first one then", Tables.target(asked, 0), "20,10,0");
                Check.due("the second one then", Tables.target(asked, 1), "10,5,0");
            });
        e.says("This is a change.").holds(() -> {
            StepperTable t = Tables.smallWithQueue();
            dueChange("two targets", t, () -> t.swapTargets(0, 1));
            dueChange("one target", t, () -> t.swapTargets(0, 0));
        });
        e.says("- `move`: number of a move of the queue").says("- `other`: number of a move of the queue").says("Throws "
            + "`IndexOutOfBoundsException` if there is no such move").holds(() -> {
                moveEdges((t, move) -> t.swapTargets(move, 0));
                moveEdges((t, move) -> t.swapTargets(0, move));
            });
        e.says("Throws `IllegalStateException` if a move would lead nowhere then").holds(() -> {
            StepperTable t = queued(Tables.QUICK, at(1, 0, 0), at(2, 0, 0), at(3, 0, 0), at(1, 0, 0), at(0, 0, 0));
            Check.dueThrow("two of the same side by side", NO_STATE, () -> t.swapTargets(1, 3));
            Check.dueThrow("the first one where the axes are", NO_STATE, () -> t.swapTargets(0, 4));
            Check.dueThrow("the same in the other order", NO_STATE, () -> t.swapTargets(4, 0));
            Check.due("unchanged", row(move -> t.target(move, 0), 5), "1 2 3 1 0");
            dueAnswer("two of the same", () -> t.swapTargets(0, 3));
        });
    }

    // ---- promises 33 to 39 ----

    private static void promises33To36(Edges e) {
        e.section("Promise 33");
        stepRange(e, StepperTable::pointAt);
        e.says("Returns a coordinate behind some steps of a move of the queue.").holds(() -> {
            StepperTable t = queued(Tables.QUICK, at(5, 2, 0), at(0, 3, 0));
            Check.due("x", row(k -> t.pointAt(0, 0, k), 6), "0 1 2 3 4 5");
            Check.due("y", row(k -> t.pointAt(0, 1, k), 6), "0 0 1 1 2 2");
            Check.due("x back", row(k -> t.pointAt(1, 0, k), 6), "5 4 3 2 1 0");
            Check.due("y on", row(k -> t.pointAt(1, 1, k), 6), "2 2 2 3 3 3");
            Check.due("z", row(k -> t.pointAt(1, 2, k), 6), "0 0 0 0 0 0");
            t.run(1);
            Check.due("x behind a run", row(k -> t.pointAt(0, 0, k), 6), "5 4 3 2 1 0");
            StepperTable zigzag = zigzag();
            for (int move = 0; move < 16; move++) {
                int asked = move;
                Check.due("move " + move, row(axis -> zigzag.pointAt(asked, axis, 0), 3), move % 2 == 0 ? "0 0 0" : "1 1 1");
                Check.due("its end", row(axis -> zigzag.pointAt(asked, axis, 1), 3), move % 2 == 0 ? "1 1 1" : "0 0 0");
            }
        });
        e.section("Promise 34");
        e.says("Returns how many steps of a move of the queue, as planned now, are faster, or slower, than the step ahead of them in "
            + "the same move.").says("- `up`: true for the faster ones, false for the slower ones").holds(() -> {
                String[] due = {"0 0", "0 0", "1 1", "1 1", "2 2"};
                for (int lead = 1; lead <= 5; lead++) {
                    StepperTable t = queued(Tables.QUICK, at(lead, 0, 0));
                    Check.due("lead " + lead, t.rampSteps(0, true) + " " + t.rampSteps(0, false), due[lead - 1]);
                }
                StepperTable two = queued(Tables.QUICK, at(4, 0, 0), at(8, 0, 0));
                Check.due("up alone", two.rampSteps(0, true) + " " + two.rampSteps(0, false), "3 0");
                Check.due("down alone, not counting the move ahead", two.rampSteps(1, true) + " " + two.rampSteps(1, false), "0 3");
                StepperTable slow = queued("x 100 0 1000 1 0 0;", at(5, 0, 0));
                Check.due("by 1 a step", slow.rampSteps(0, true) + " " + slow.rampSteps(0, false), "2 2");
                StepperTable cut = queued("x 100 0 150 100 0 0;", at(9, 0, 0));
                Check.due("to the cruise", cut.rampSteps(0, true) + " " + cut.rampSteps(0, false), "1 1");
            });
        moveRange(e, (t, move) -> t.rampSteps(move, false));
        e.section("Promise 35");
        e.says("Returns the axis that limits the cruise of a move of the queue.").says("Returns number of the axis with a distance "
            + "other than 0 whose top * lead / |distance|, rounded down, is the smallest one, the smallest number on a tie.").holds(() -> {
                StepperTable t = queued("x 100 0 67 9 0 0; y 100 0 100 9 0 0; z 100 0 10 9 0 0;", at(2, 3, 0), at(2, 4, 0),
                    at(0, 0, 0), at(1, 2, 1), at(2, 3, 1), at(3, 3, 1));
                // x: 67 * 3 / 2 is 100.5, which is 100, too; y alone; x: 67 * 4 / 2 is 134; z: 10 * 2 / 1; x: 67 * 1 / 1; x alone
                Check.due("limits", row(t::slowest, 6), "0 1 1 2 0 0");
                StepperTable last = queued("x 100 0 100 9 0 0; y 100 0 67 9 0 0;", at(3, 2, 0), at(6, 4, 1));
                Check.due("a tie with another axis behind it", row(last::slowest, 2), "0 0");
                Check.due("a tie of all", queued(Tables.QUICK, at(7, 7, 7)).slowest(0), 0);
                Check.due("a tie of y and z", queued(Tables.QUICK, at(6, 7, 7)).slowest(0), 1);
            });
        moveRange(e, StepperTable::slowest);
        e.section("Promise 36");
        e.says("Counts the moves of the queue that go on straight with the next one.").says("Returns the number of moves.").holds(() -> {
            Check.due("no moves", new StepperTable().straightPairs(), 0);
            Check.due("one move", Tables.losing().straightPairs(), 0);
            Check.due("16 moves", Tables.full().straightPairs(), 15);
            StepperTable t = Tables.full();
            t.run(15);
            Check.due("one that is left", t.straightPairs(), 0);
        });
    }

    private static void promises37To39(Edges e) {
        e.section("Promise 37");
        e.says("Returns the least or the greatest coordinate of an axis in the queue, where it is now included.").says("- `greatest`: "
            + "whether the greatest one is returned").holds(() -> {
                StepperTable t = Tables.quick();
                Check.due("empty, least", t.bound(0, false), 0);
                t.queue(50, 60, 70);
                t.runAll();
                Check.due("empty, greatest", t.bound(0, true), 50);
                Check.due("empty, least", t.bound(1, false), 60);
                t.queue(51, 59, 70);
                Check.due("x", t.bound(0, false) + " " + t.bound(0, true), "50 51");
                Check.due("y", t.bound(1, false) + " " + t.bound(1, true), "59 60");
                Check.due("z", t.bound(2, false) + " " + t.bound(2, true), "70 70");
                t.queue(0, 100, 71);
                t.queue(100, 0, 69);
                Check.due("x then", t.bound(0, false) + " " + t.bound(0, true), "0 100");
                Check.due("y then", t.bound(1, false) + " " + t.bound(1, true), "0 100");
                Check.due("z then", t.bound(2, false) + " " + t.bound(2, true), "69 71");
            });
        axisRange(e, Tables::small, (t, axis) -> t.bound(axis, true));
        e.says("Throws `IllegalStateException` if the axis is not homed").holds(() -> dueNotHomed((t, axis) -> t.bound(axis, false)));
        e.section("Promise 38");
        e.says("Finds the target of the queue that is nearest to a point: with the smallest lead of a move from the point to it "
            + "(differences are taken as long).").says("- `x`: any int").says("- `y`: any int").says("- `z`: any int").holds(() -> {
                StepperTable t = queued(Tables.QUICK, at(2, 2, 2), at(1, 1, 1), at(0, 0, 0), at(1, 1, 1));
                for (int axis = 0; axis < 3; axis++) {
                    int[] p = {0, 0, 0};
                    p[axis] = LEAST;
                    Check.due("least", t.nearest(p[0], p[1], p[2]), 2);
                    p[axis] = LEAST + 1;
                    Check.due("least but one", t.nearest(p[0], p[1], p[2]), 2);
                    p[axis] = GREATEST;
                    Check.due("greatest", t.nearest(p[0], p[1], p[2]), 0);
                }
                Check.due("all least", t.nearest(LEAST, LEAST, LEAST), 2);
                Check.due("all greatest", t.nearest(GREATEST, GREATEST, GREATEST), 0);
                Check.due("both", t.nearest(LEAST, GREATEST, 0), 2);
                StepperTable far = queued(Tables.QUICK, at(10, 0, 0), at(9, 9, 9), at(0, 0, 9));
                Check.due("the greatest difference counts, not their sum", far.nearest(0, 0, 0), 1);
                Check.due("z", far.nearest(5, 5, 9), 1);
                Check.due("a point of the queue", far.nearest(0, 0, 9), 2);
            });
        e.says("Returns its number, the smallest one on a tie; -1 if the queue is empty.").holds(() -> {
            Check.due("empty", Tables.small().nearest(0, 0, 0), -1);
            Check.due("not homed", new StepperTable().nearest(LEAST, 0, GREATEST), -1);
            StepperTable t = queued(Tables.QUICK, at(10, 0, 0), at(20, 0, 0), at(10, 0, 0));
            Check.due("the same target twice", t.nearest(10, 0, 0), 0);
            Check.due("in the middle", t.nearest(15, 0, 0), 0);
            Check.due("one nearer", t.nearest(16, 0, 0), 1);
            Check.due("far away from both", t.nearest(15, 100, 0), 0);
        });
        e.section("Promise 39");
        e.says("Orders the targets of the queue by always going to the nearest one that is left (see nearest), beginning where the axes "
            + "are.").says("Returns the number of the target in the queue.").holds(() -> {
                StepperTable t = queued(Tables.QUICK, at(60, 0, 0), at(20, 0, 0), at(40, 0, 0), at(20, 0, 0), at(1, 0, 0));
                Check.due("from 0, with a tie of the same targets", row(t::nearestOrder, 5), "4 1 3 2 0");
                t.run(3);
                Check.due("from 40, with a tie of 20 and 1", row(t::nearestOrder, 2), "0 1");
                StepperTable turn = queued(Tables.QUICK, at(50, 0, 0), at(40, 0, 0), at(61, 0, 0), at(30, 0, 0));
                turn.run(1);
                Check.due("from 50", row(turn::nearestOrder, 3), "0 2 1");
                for (int axis = 0; axis < 3; axis++) {
                    StepperTable line = Tables.quick();
                    for (int to : new int[] {50, 55, 60, 44}) {
                        line.queue(axis == 0 ? to : 0, axis == 1 ? to : 0, axis == 2 ? to : 0);
                    }
                    line.run(1);
                    Check.due("from 50 along the axis " + axis, row(line::nearestOrder, 3), "0 1 2");
                }
                StepperTable wide = queued(Tables.QUICK, at(50, 10, 90), at(49, 60, 20), at(50, 90, 91), at(1, 11, 70));
                // leads from 0: 90, 60, 91, 70; from 49, 60, 20: 70, 71, 50; from 1, 11, 70: 49, 79
                Check.due("in all three axes", row(wide::nearestOrder, 4), "1 3 0 2");
                StepperTable full = Tables.full();
                Check.due("16 places", row(full::nearestOrder, 16), "0 1 2 3 4 5 6 7 8 9 10 11 12 13 14 15");
            });
        e.says("- `index`: place in this order, from 0").says("Throws `NoSuchElementException` if there is no such place").holds(() -> {
            for (int index : new int[] {-1, 2, 16, LEAST, GREATEST}) {
                Check.dueThrow("place " + index + " of 2", NO_ELEMENT, () -> Tables.smallWithQueue().nearestOrder(index));
            }
            dueAnswer("place 1 of 2", () -> Tables.smallWithQueue().nearestOrder(1));
            Check.dueThrow("place 0 of none", NO_ELEMENT, () -> Tables.small().nearestOrder(0));
            Check.dueThrow("place 16 of 16", NO_ELEMENT, () -> Tables.full().nearestOrder(16));
        });
    }

    // ---- promises 40 to 47 ----

    private static final String TURNING = "x 100 3 1000 100 0 0; y 100 2 1000 100 0 0; z 100 0 1000 100 0 0; compensate;";

    /** Moves of 100, 200 and 100 a second forward; one step back, behind five of compensation; one of z. */
    private static StepperTable turning() {
        return queued(TURNING, at(3, 2, 0), at(2, 1, 0), at(2, 1, 1));
    }

    /** The same, but lost steps would be detected, and compensation loses some; the axes are at their ends. */
    private static StepperTable losingAll() {
        StepperTable t = queued("x 20 5 1000 100 0 0; y 40 5 1000 100 0 0; z 9 0 9 9 0 0;", at(19, 19, 0), at(18, 18, 0));
        t.runAll();
        t.setCompensation(true);
        t.setDetection(true);
        t.queue(19, 19, 0);
        t.queue(20, 19, 0);
        return t;
    }

    /** 16 moves of one step of all axes, there and back: 15 of them turn, behind 3 + 2 + 1 steps of compensation. */
    private static StepperTable zigzag() {
        StepperTable t = Tables.homed("x 9 3 900 9 0 0; y 9 2 900 9 0 0; z 9 1 900 9 0 0; compensate;");
        for (int n = 1; n <= 16; n++) {
            t.queue(n % 2, n % 2, n % 2);
        }
        return t;
    }

    private static void promises40And41(Edges e) {
        e.section("Promise 40");
        e.says("Forecasts how long the queue lasts up to the end of a move, the compensation included, detection being off.")
            .holds(() -> {
                StepperTable t = turning();
                Check.due("moves", row(t::lastsUntil, 3), "25000 85000 95000");
                t.setCompensation(false);
                Check.due("without compensation", row(t::lastsUntil, 3), "25000 35000 45000");
                StepperTable zigzag = zigzag();
                for (int move = 0; move < 16; move++) {
                    Check.due("16 moves that turn: " + move, zigzag.lastsUntil(move), 10000L + move * 70000L);
                }
                StepperTable detecting = losingAll();
                Check.due("as if detection was off", row(detecting::lastsUntil, 2), "110000 120000");
            });
        moveRange(e, StepperTable::lastsUntil);
        e.section("Promise 41");
        e.says("Forecasts where an axis should be when some time of the queue has passed, compensation included, detection being off: "
            + "its coordinate behind all steps of moves that have ended by then.").holds(() -> {
                StepperTable t = turning();
                int[][] due = {{0, 0, 0, 0}, {9999, 0, 0, 0}, {10000, 1, 1, 0}, {14999, 1, 1, 0}, {15000, 2, 1, 0}, {24999, 2, 1, 0},
                    {25000, 3, 2, 0}, {74999, 3, 2, 0}, {75000, 3, 2, 0}, {84999, 3, 2, 0}, {85000, 2, 1, 0}, {94999, 2, 1, 0},
                    {95000, 2, 1, 1}};
                for (int[] d : due) {
                    Check.due("at " + d[0], row(axis -> t.whereAt(axis, d[0]), 3), d[1] + " " + d[2] + " " + d[3]);
                }
                StepperTable zigzag = zigzag();
                for (int move = 0; move < 16; move++) {
                    int end = 10000 + move * 70000;
                    Check.due("as the move " + move + " ends", row(axis -> zigzag.whereAt(axis, end), 3),
                        move % 2 == 0 ? "1 1 1" : "0 0 0");
                    Check.due("just ahead of that", row(axis -> zigzag.whereAt(axis, end - 1), 3),
                        move % 2 == 0 ? "0 0 0" : "1 1 1");
                }
                StepperTable detecting = losingAll();
                Check.due("behind lost compensation", detecting.whereAt(0, 110000), 19);
                Check.due("behind a lost step", detecting.whereAt(0, 120000), 20);
            });
        e.says("- `time`: 0 or more; behind the end of the queue it is where that ends").says("Throws `IllegalArgumentException` if time "
            + "is negative").holds(() -> {
                StepperTable t = turning();
                Check.due("just behind the end", row(axis -> t.whereAt(axis, 95001), 3), "2 1 1");
                Check.due("greatest", row(axis -> t.whereAt(axis, GREATEST), 3), "2 1 1");
                for (int time : new int[] {-1, LEAST}) {
                    Check.dueThrow("time " + time, NO_ARGUMENT, () -> t.whereAt(0, time));
                }
                t.runAll();
                Check.due("no queue, at once", row(axis -> t.whereAt(axis, 0), 3), "2 1 1");
                Check.due("no queue, later", row(axis -> t.whereAt(axis, GREATEST), 3), "2 1 1");
                StepperTable slow = queued("x 2000 0 1 1 0 0; start 1;", at(2000, 0, 0), at(0, 0, 0));
                Check.due("a queue that lasts longer than an int tells", slow.whereAt(0, GREATEST), 4000 - 2147);
            });
        axisRange(e, Tables::small, (t, axis) -> t.whereAt(axis, 0));
        e.says("Throws `IllegalStateException` if the axis is not homed").holds(() -> dueNotHomed((t, axis) -> t.whereAt(axis, 0)));
    }

    private static void promises42To44(Edges e) {
        e.section("Promise 42");
        e.says("Forecasts the true position of an axis behind the whole queue, detection being off.").holds(() -> {
            StepperTable t = turning();
            Check.due("compensated", row(t::trueBehind, 3), "3 2 2");
            t.setCompensation(false);
            Check.due("in the backlash", row(t::trueBehind, 3), "4 3 2");
            Check.due("at the end stop", row(losingAll()::trueBehind, 3), "20 25 1");
            Check.due("an empty queue, not homed", Tables.loaded("begin 0 7 200;").trueBehind(2), 200);
            Check.due("an alarm", stopped().trueBehind(0), 9);
        });
        axisRange(e, StepperTable::new, StepperTable::trueBehind);
        e.section("Promise 43");
        String far = "x 2000 0 9 9 0 0; y 2000 0 9 9 0 0; z 2000 0 9 9 0 0;";
        e.says("Returns the length of the line of a move of the queue: the root of v, the sum of the squares of its distances, converted "
            + "to double.").says("The root is found so: r is v at first, and 60 times r becomes (r + v / r) / 2.0.").holds(() -> {
                StepperTable t = queued(far, at(1, 0, 0), at(0, 0, 0), at(1, 1, 0), at(0, 2, 1), at(0, 0, 0), at(2000, 2000, 2000),
                    at(0, 0, 0), at(1999, 1, 0));
                int[] squares = {1, 1, 2, 3, 5, 12000000, 12000000, 1999 * 1999 + 1};
                for (int move = 0; move < squares.length; move++) {
                    Check.due("the root of " + squares[move], t.lineLength(move), root(squares[move]));
                }
                Check.due("1", t.lineLength(0), 1.0);
            });
        moveRange(e, StepperTable::lineLength);
        e.section("Promise 44");
        e.says("Returns the length of the whole queue: 0.0 plus the lengths of its moves (see lineLength), added one by one in their "
            + "order.").holds(() -> {
                Check.due("empty", Tables.small().queueLength(), 0.0);
                Check.due("not homed", new StepperTable().queueLength(), 0.0);
                StepperTable t = queued(far, at(1999, 1998, 1997), at(1998, 1997, 1996), at(1998, 1996, 1995), at(0, 0, 1));
                double due = 0.0 + root(1999 * 1999 + 1998 * 1998 + 1997 * 1997) + root(3) + root(2)
                    + root(1998 * 1998 + 1996 * 1996 + 1994 * 1994);
                Check.due("four moves", t.queueLength(), due);
                t.unqueue();
                t.unqueue();
                Check.due("two that are left", t.queueLength(), 0.0 + root(1999 * 1999 + 1998 * 1998 + 1997 * 1997) + root(3));
            });
    }

    private static double root(double v) {
        double r = v;
        for (int i = 0; i < 60; i++) {
            r = (r + v / r) / 2.0;
        }
        return r;
    }

    private static void promises45To47(Edges e) {
        e.section("Promise 45");
        e.says("Returns the mean speed of a move of the queue, as planned now: 1000000 * its lead, divided by what all its steps last, "
            + "both numbers converted to double.").holds(() -> {
                StepperTable t = turning();
                Check.due("three steps of 25000", t.meanSpeed(0), 3000000.0 / 25000.0);
                Check.due("one step, without compensation", t.meanSpeed(1), 1000000.0 / 10000.0);
                StepperTable third = queued(Tables.QUICK, at(3, 0, 0), at(9, 0, 0));
                Check.due("100, 200 and 300 a second", third.meanSpeed(0), 3000000.0 / 18333.0);
                StepperTable slow = queued("x 2000 0 1 1 0 0; start 1;", at(2000, 0, 0));
                Check.due("2000 seconds", slow.meanSpeed(0), 1.0);
                StepperTable fast = queued("x 2000 0 5000 500 0 0; start 1000;", at(2000, 0, 0));
                // 1000, 1500 and so on to 4500, twice, and 1984 steps of 5000
                long ramp = 1000 + 666 + 500 + 400 + 333 + 285 + 250 + 222;
                Check.due("more than an int holds", fast.meanSpeed(0), 2000000000.0 / (double) (2 * ramp + 1984 * 200));
            });
        moveRange(e, StepperTable::meanSpeed);
        e.section("Promise 46");
        e.says("Returns how many steps of moves an axis makes in the whole queue, without compensation.").says("Returns the sum of its "
            + "absolute distances.").holds(() -> {
                Check.due("turning", row(turning()::travel, 3), "4 3 1");
                Check.due("empty", row(Tables.small()::travel, 3), "0 0 0");
                StepperTable t = queued("x 2000 0 9 9 0 0;", at(2000, 0, 0));
                for (int n = 1; n < 16; n++) {
                    t.queue(n % 2 == 0 ? 2000 : 0, 0, 0);
                }
                Check.due("16 moves there and back", row(t::travel, 3), "32000 0 0");
                t.run(15);
                Check.due("one that is left", t.travel(0), 2000);
            });
        axisRange(e, StepperTable::new, StepperTable::travel);
        e.section("Promise 47");
        e.says("Counts the moves of the queue that turn an axis: whose direction along it is not its latest one then.")
            .says("Returns the number of moves.").holds(() -> {
                Check.due("empty", row(Tables.small()::turnsAhead, 3), "0 0 0");
                StepperTable t = queued(Tables.QUICK, at(3, 3, 0), at(2, 3, 0), at(2, 3, 1), at(1, 3, 0), at(2, 4, 0), at(1, 3, 0));
                Check.due("a distance of 0 is no turn, and the latest direction stays", row(t::turnsAhead, 3), "3 1 1");
                Check.due("16 moves", row(zigzag()::turnsAhead, 3), "15 15 15");
                t.run(2);
                Check.due("behind a backward move", row(t::turnsAhead, 3), "2 1 1");
                StepperTable back = Tables.loaded("x 9 0 9 9 0 0;");
                back.home(0);
                Check.due("homed, no queue", back.turnsAhead(0), 0);
                StepperTable begin = queued(Tables.QUICK, at(5, 0, 0), at(4, 0, 0));
                begin.runAll();
                begin.queue(5, 0, 0);
                Check.due("the first move turns it", begin.turnsAhead(0), 1);
                begin.unqueue();
                begin.queue(3, 0, 0);
                Check.due("the first move goes on", begin.turnsAhead(0), 0);
            });
        axisRange(e, StepperTable::new, StepperTable::turnsAhead);
    }

    // ---- promises 48 to 54 ----

    private static void promises48And49(Edges e) {
        e.section("Promise 48");
        e.says("Forecasts how long the whole queue lasts, its compensation included (also behind lost steps, as if detection was off).")
            .says("Returns the time; 0 if the queue is empty.").holds(() -> {
                Check.due("empty", Tables.small().queueTime(), 0L);
                Check.due("not homed", new StepperTable().queueTime(), 0L);
                Check.due("an alarm", stopped().queueTime(), 0L);
                Check.due("turning", turning().queueTime(), 95000L);
                StepperTable t = losingAll();
                Check.due("behind lost steps", t.queueTime(), 120000L);
                t.setDetection(false);
                long before = t.time();
                t.runAll();
                Check.due("as it lasts", t.time() - before, 120000L);
                StepperTable zigzag = zigzag();
                Check.due("16 moves that turn", zigzag.queueTime(), 16 * 10000L + 15 * 6 * 10000L);
                StepperTable slow = queued("x 2000 20 1 1 0 0; start 1; compensate;", at(2000, 0, 0));
                slow.queue(0, 0, 0);
                slow.queue(2000, 0, 0);
                Check.due("more than an int holds", slow.queueTime(), 6040000000L);
            });
        e.section("Promise 49");
        e.says("Forecasts how long it would last to go straight to a target, the queue being empty (its compensation included, detection as "
            + "if it was off).").holds(() -> {
                StepperTable t = Tables.homed(TURNING);
                t.queue(50, 50, 50);
                Check.due("with a queue that leads elsewhere", t.straightTime(3, 0, 0), 25000L);
                Check.due("the queue stays", t.target(0, 0), 50);
                t.unqueue();
                t.queue(5, 5, 5);
                t.runAll();
                Check.due("compensated", t.straightTime(4, 4, 4), 5 * 10000L + 10000);
                t.setCompensation(false);
                Check.due("not compensated", t.straightTime(4, 4, 4), 10000L);
                StepperTable losing = losingAll();
                losing.reset();
                losing.homeAll();
                Check.due("detection as if off", losing.straightTime(20, 0, 0) > 0, true);
                StepperTable slow = Tables.homed("x 2000 0 1 1 0 0; y 2000 0 1 1 0 0; start 1;");
                slow.queue(1, 0, 0);
                Check.due("far", slow.straightTime(2000, 2000, 0), 2000000000L);
            });
        e.says("Returns the time; 0 if the axes are there.").holds(() -> {
            StepperTable t = Tables.small();
            Check.due("there", t.straightTime(0, 0, 0), 0L);
            t.queue(10, 5, 1);
            Check.due("there, with a queue", t.straightTime(0, 0, 0), 0L);
            t.runAll();
            Check.due("there now", t.straightTime(10, 5, 1), 0L);
            Check.due("one step away", t.straightTime(10, 5, 2), 10000L);
        });
        e.says("- `x`: coordinate, 0 to the length of the axis").says("- `y`: likewise").says("- `z`: likewise").says("Throws "
            + "`IllegalArgumentException` if a coordinate is out of range").holds(() -> pointRange(StepperTable::straightTime));
        e.says("Throws `IllegalStateException` if an axis is not homed").holds(() -> {
            dueNotHomed((t, axis) -> t.axis(axis, 11) == 1 ? 0 : t.straightTime(0, 0, 0));
            for (int axis = 0; axis < 3; axis++) {
                StepperTable t = Tables.small();
                t.jog(axis, 1);
                Check.dueThrow("one axis: " + axis, NO_STATE, () -> t.straightTime(0, 0, 0));
            }
            dueAnswer("a full queue", () -> Tables.full().straightTime(50, 0, 0));
        });
    }

    private static void promises50To52(Edges e) {
        e.section("Promise 50");
        e.says("Forecasts how many steps would be lost if the whole queue was run now, detection being off.").holds(() -> {
            Check.due("empty", new StepperTable().wouldLose(), 0);
            Check.due("none", Tables.smallWithQueue().wouldLose(), 0);
            StepperTable t = losingAll();
            Check.due("four of compensation, two of moves", t.wouldLose(), 4 + 2);
            StepperTable all = queued("x 9 0 9 9 0 0; y 9 0 9 9 0 0; z 9 0 9 9 0 0;", at(9, 9, 9));
            Check.due("of all axes", all.wouldLose(), 3);
            all.runAll();
            Check.due("those that are lost already do not count", all.wouldLose(), 0);
            StepperTable edge = queued("x 9 0 9 9 0 0;", at(8, 0, 0));
            Check.due("to the very end stop", edge.wouldLose(), 0);
        });
        e.section("Promise 51");
        e.says("Forecasts the error of an axis behind the whole queue, detection being off.").holds(() -> {
            StepperTable t = queued("x 9 2 9 9 0 0; detect;", at(9, 0, 0));
            Check.due("lost", t.wouldErr(0), -1);
            t.queue(8, 0, 0);
            Check.due("one step in the slack", t.wouldErr(0), 0);
            t.queue(6, 0, 0);
            Check.due("two steps in the slack", t.wouldErr(0), 1);
            Check.due("another axis", t.wouldErr(1), 0);
            Check.due("now", t.error(0), 0);
            t.setDetection(false);
            t.runAll();
            Check.due("an empty queue", t.wouldErr(0), t.error(0));
        });
        axisRange(e, Tables::small, StepperTable::wouldErr);
        e.says("Throws `IllegalStateException` if the axis is not homed").holds(() -> dueNotHomed(StepperTable::wouldErr));
        e.section("Promise 52");
        e.says("Forecasts how many steps homing an axis would take, whatever the alarm and the queue are.").holds(() -> {
            StepperTable t = Tables.alarmed();
            Check.due("alarm 1", t.wouldHome(0), 12);
            Check.due("it stays", t.count(3), 1);
            Check.due("alarm 3", stopped().wouldHome(0), 9 + 1);
            StepperTable queue = Tables.smallWithQueue();
            Check.due("a queue", queue.wouldHome(2), 3 + 3);
            Check.due("it stays", queue.count(4), 2);
            StepperTable fresh = Tables.loaded(Tables.SMALL);
            for (int axis = 0; axis < 3; axis++) {
                int due = fresh.wouldHome(axis);
                Check.due("as it takes", fresh.home(axis), due);
            }
        });
        axisRange(e, StepperTable::new, StepperTable::wouldHome);
        e.says("Returns the number of steps; -1 if it would end in an alarm.").holds(() -> {
            StepperTable t = Tables.small();
            for (int how = 1; how <= 2; how++) {
                t.setStuck(1, how);
                Check.due("stuck " + how, t.wouldHome(1), -1);
                Check.due("another axis", t.wouldHome(0), 12);
            }
            Check.due("no alarm yet", t.count(3), 0);
            Check.due("a switch that never opens", Tables.loaded("x 9 4 1 1 5 4;").wouldHome(0), -1);
            Check.due("one that opens at the end", Tables.loaded("x 9 4 1 1 5 3;").wouldHome(0), 13);
        });
    }

    private static void promises53And54(Edges e) {
        e.section("Promise 53");
        e.says("Finds the target of the queue that should come first: the one with which, put ahead of all others, which stay in their "
            + "order, the whole queue would last least (see queueTime;").holds(() -> {
                StepperTable t = queued("x 100 0 10 9 0 0;", at(50, 0, 0), at(90, 0, 0), at(10, 0, 0), at(60, 0, 0));
                // 10 a second: 50 + 40 + 80 + 50, 90 + 40 + 40 + 50, 10 + 40 + 40 + 30, 60 + 10 + 40 + 80 steps
                Check.due("120 steps", t.bestFirst(), 2);
                Check.due("nothing changed", row(move -> t.target(move, 0), 4), "50 90 10 60");
                for (int axis = 1; axis < 3; axis++) {
                    StepperTable other = Tables.homed("y 100 0 10 9 0 0; z 100 0 10 9 0 0;");
                    for (int to : new int[] {50, 90, 10, 60}) {
                        other.queue(0, axis == 1 ? to : 0, axis == 2 ? to : 0);
                    }
                    Check.due("120 steps of the axis " + axis, other.bestFirst(), 2);
                }
                StepperTable turn = queued("x 100 20 100 100 0 0; compensate;", at(50, 0, 0), at(45, 0, 0), at(60, 0, 0));
                turn.run(1);
                // 20 + 5 and 20 + 15 steps, or 10 and 20 + 15; without compensation 5 + 15, or 10 + 15
                Check.due("compensation included", turn.bestFirst(), 1);
                turn.setCompensation(false);
                Check.due("compensation off", turn.bestFirst(), 0);
            });
        e.says("each target at which the move to it would begin is left out, also one of the others).").holds(() -> {
            StepperTable there = queued("x 100 0 10 9 0 0;", at(5, 0, 0), at(0, 0, 0));
            Check.due("the first one, where the axes are", there.bestFirst(), 1);
            StepperTable others = queued("x 100 0 10 9 0 0;", at(50, 0, 0), at(20, 0, 0), at(50, 0, 0), at(51, 0, 0));
            // 20, 50, 50, 51: 20 + 30 + 1 steps, one of the two 50 being left out
            Check.due("one of the others", others.bestFirst(), 1);
            StepperTable most = queued("x 100 0 10 9 0 0;", at(5, 0, 0), at(6, 0, 0), at(5, 0, 0), at(6, 0, 0), at(5, 0, 0));
            // 5, 5, 6, 5, 6: 8 steps; 6, 5, 5, 6, 5: 9; 5, 5, 6, 6, 5: 7; 6, 5, 6, 5, 5: 9; 5, 5, 6, 5, 6: 8
            Check.due("two that come to be side by side", most.bestFirst(), 2);
        });
        e.says("Returns its number in the queue, the smallest one on a tie; -1 if the queue is empty.").holds(() -> {
            Check.due("empty", Tables.small().bestFirst(), -1);
            Check.due("not homed", new StepperTable().bestFirst(), -1);
            Check.due("one", Tables.losing().bestFirst(), 0);
            StepperTable t = queued(Tables.QUICK, at(5, 0, 0), at(0, 5, 0), at(5, 0, 0));
            // the first one first: three moves; the second or the third one first: one of the same two is left out
            Check.due("a tie of the second and the third", t.bestFirst(), 1);
            Check.due("a tie of two axes", queued(Tables.QUICK, at(0, 7, 0), at(7, 0, 0)).bestFirst(), 0);
        });
        e.section("Promise 54");
        e.says("Finds the setting start with which the whole queue would last least (see queueTime), of 50, 100, 150 and so on up to 1000.")
            .holds(() -> {
                StepperTable up = queued("x 100 0 5000 1 0 0;", at(50, 0, 0));
                Check.due("the greatest one", up.bestStart(), 1000);
                Check.due("start stays", up.count(0), 100);
                StepperTable turn = queued("x 100 20 20 1 0 0; compensate;", at(9, 0, 0), at(8, 0, 0));
                Check.due("for compensation alone", turn.bestStart(), 1000);
                StepperTable odd = queued("x 100 0 120 1 0 0; start 7;", at(50, 0, 0));
                Check.due("between two of them", odd.bestStart(), 150);
            });
        e.says("Returns the setting, the smallest one on a tie.").holds(() -> {
            Check.due("the least one", queued("x 100 0 20 1 0 0;", at(9, 0, 0)).bestStart(), 50);
            Check.due("just reached", queued("x 100 0 50 1 0 0;", at(9, 0, 0)).bestStart(), 50);
            Check.due("just not reached", queued("x 100 0 51 1 0 0;", at(9, 0, 0)).bestStart(), 100);
            Check.due("no compensation, no reason", queued("x 100 20 20 1 0 0;", at(9, 0, 0), at(8, 0, 0)).bestStart(), 50);
        });
        e.says("Throws `NoSuchElementException` if the queue is empty").holds(() -> {
            Check.dueThrow("homed", NO_ELEMENT, () -> Tables.small().bestStart());
            Check.dueThrow("not homed", NO_ELEMENT, () -> new StepperTable().bestStart());
            Check.dueThrow("an alarm", NO_ELEMENT, () -> stopped().bestStart());
        });
    }

    // ---- promises 55 to 60 ----

    /** Jogs until the true position changes, which the answer has told. */
    private static void dueSlack(StepperTable t, boolean forward, int due) {
        Check.due("left " + (forward ? "forward" : "backward"), t.slackLeft(0, forward), due);
        int before = t.axis(0, 6);
        for (int n = 1; n <= due; n++) {
            int now = t.jog(0, forward ? 1 : -1);
            Check.due("changed behind " + n, now != before, n == due);
        }
    }

    private static void promise55(Edges e) {
        e.section("Promise 55");
        e.says("Measures the backlash of an axis that is left: how many steps forward, or backward, it would take until its true position "
            + "changes.").says("- `forward`: whether the steps go forward").holds(() -> {
                StepperTable t = Tables.loaded("x 9 3 1 1 0 0;");
                dueSlack(t, true, 4);
                dueSlack(t, true, 1);
                dueSlack(t, false, 4);
                dueSlack(t, true, 4);
                t.jog(0, -2);
                dueSlack(t, true, 3);
                t.jog(0, -1);
                dueSlack(t, false, 3);
                StepperTable none = Tables.loaded("x 9 0 1 1 0 0;");
                dueSlack(none, true, 1);
                dueSlack(none, false, 1);
            });
        e.says("Returns the number of steps; -1 if the end stop does not let it change.").holds(() -> {
            StepperTable t = Tables.loaded("x 3 2 1 1 0 0;");
            Check.due("backward at 0", t.slackLeft(0, false), -1);
            Check.due("forward at 0", t.slackLeft(0, true), 3);
            t.jog(0, 2);
            Check.due("backward at 0, with slack", t.slackLeft(0, false), -1);
            t.jog(0, 1);
            Check.due("backward at 1", t.slackLeft(0, false), 3);
            t.jog(0, 2);
            Check.due("forward at the length", t.slackLeft(0, true), -1);
            Check.due("backward at the length", t.slackLeft(0, false), 3);
            t.jog(0, -2);
            Check.due("forward at the length, with slack", t.slackLeft(0, true), -1);
            Check.due("backward there", t.slackLeft(0, false), 1);
            t.jog(0, -1);
            Check.due("forward one ahead of it", t.slackLeft(0, true), 3);
        });
        axisRange(e, StepperTable::new, (t, axis) -> t.slackLeft(axis, true));
    }

    private static void accounts(Edges e) {
        e.says("0 steps forward, 1 steps backward, 2 compensation steps").says("in 0 and 1 all steps of its motor are counted, also those "
            + "of homing, jogging and compensation and lost ones").holds(() -> {
                StepperTable t = Tables.loaded("x 9 3 100 10 0 0; compensate;");
                t.jog(0, -5);
                Check.due("jogging, lost", row(what -> t.account(0, what), 3), "0 5 0");
                t.home(0);
                Check.due("homing", row(what -> t.account(0, what), 3), "4 5 0");
                t.home(1);
                t.home(2);
                t.queue(9, 0, 0);
                t.queue(8, 0, 0);
                t.runAll();
                Check.due("moves and compensation", row(what -> t.account(0, what), 3), "13 9 3");
                Check.due("forward less backward, and lost", t.axis(0, 8) + " " + t.axis(0, 9), "4 6");
                StepperTable zigzag = zigzag();
                zigzag.runAll();
                Check.due("15 turns", row(axis -> zigzag.account(axis, 2), 3), "45 30 15");
            });
        e.says("3 homings that succeeded, 4 homings that failed").holds(() -> {
            StepperTable t = Tables.loaded(Tables.SMALL);
            t.home(0);
            t.home(0);
            t.setStuck(0, 1);
            t.home(0);
            t.reset();
            t.setStuck(0, 2);
            t.home(0);
            t.reset();
            t.setStuck(0, 0);
            t.homeAll();
            Check.due("x", t.account(0, 3) + " " + t.account(0, 4), "3 2");
            Check.due("y", t.account(1, 3) + " " + t.account(1, 4), "1 0");
            t.wouldHome(1);
            Check.due("a forecast does not count", t.account(1, 3), 1);
        });
        e.says("5 reversals: moves that began and whose direction along the axis was not its latest one (counted for all axes as the move "
            + "begins)").holds(() -> {
                StepperTable t = queued(Tables.QUICK, at(3, 3, 0), at(2, 3, 0), at(2, 3, 1), at(1, 3, 0), at(2, 4, 0));
                t.run(1);
                Check.due("none", row(axis -> t.account(axis, 5), 3), "0 0 0");
                t.runAll();
                Check.due("three moves", row(axis -> t.account(axis, 5), 3), "2 0 1");
                StepperTable stop = queued("x 9 0 100 10 0 0; y 9 0 9 9 0 0; detect;", at(8, 5, 5), at(9, 4, 4), at(8, 5, 5));
                Check.due("the second one stops", stop.runAll(), 1);
                Check.due("began, but not the third", row(axis -> stop.account(axis, 5), 3), "0 1 1");
                StepperTable compensating = losingAll();
                compensating.runAll();
                Check.due("stopped by compensation", row(axis -> compensating.account(axis, 5), 3), "2 2 0");
                StepperTable jogged = Tables.quick();
                jogged.jog(0, -1);
                jogged.home(0);
                Check.due("not by jogging and homing", jogged.account(0, 5), 0);
            });
    }

    private static void promises56To58(Edges e) {
        e.section("Promise 56");
        e.says("Returns a number of the account of an axis since the load.").holds(() -> {
            StepperTable t = turning();
            t.runAll();
            Tables.load(t, TURNING);
            for (int axis = 0; axis < 3; axis++) {
                int asked = axis;
                Check.due("behind a load", row(what -> t.account(asked, what), 6), "0 0 0 0 0 0");
            }
        });
        accounts(e);
        axisRange(e, StepperTable::new, (t, axis) -> t.account(axis, 5));
        e.says("Throws `IllegalArgumentException` if what is out of range")
            .holds(() -> whatRange(5, what -> new StepperTable().account(2, what)));
        e.section("Promise 57");
        e.says("Returns the mean duration of all steps of moves since the load: what they have lasted (compensation and homing left aside) "
            + "divided by the number of their steps 0 to lead - 1, both converted to double.").holds(() -> {
                StepperTable t = queued(TURNING, at(3, 3, 3));
                t.run(1);
                Check.due("three steps of three axes", t.meanDuration(), 25000.0 / 3.0);
                t.queue(2, 3, 3);
                t.run(1);
                Check.due("and one behind compensation", t.meanDuration(), 35000.0 / 4.0);
                t.homeAll();
                t.jog(0, 50);
                Check.due("homing and jogging left aside", t.meanDuration(), 35000.0 / 4.0);
                StepperTable detecting = queued("x 9 0 100 10 0 0; detect;", at(8, 0, 0), at(9, 0, 0));
                detecting.run(1);
                detecting.setStart(10);
                detecting.run(1);
                Check.due("the step that is lost lasts, too", detecting.meanDuration(), (80000.0 + 100000.0) / 9.0);
            });
        e.says("Returns the mean; 0.0 if there were none.").holds(() -> {
            StepperTable t = Tables.losing();
            Check.due("homed, with a queue", t.meanDuration(), 0.0);
            Check.due("new", new StepperTable().meanDuration(), 0.0);
            t.runAll();
            Check.due("run", t.meanDuration() > 0.0, true);
            t.undo();
            Check.due("undone", t.meanDuration(), 0.0);
            t.runAll();
            Tables.load(t, "");
            Check.due("loaded", t.meanDuration(), 0.0);
        });
        e.section("Promise 58");
        e.says("Returns the share of the steps of a motor that were lost: both numbers converted to float.").says("Returns lost steps / "
            + "(steps forward + steps backward); 0 if there were none.").holds(() -> {
                StepperTable t = Tables.loaded("x 9 1 1 1 0 0;");
                Check.due("none", t.lostShare(0), 0.0f);
                t.jog(0, -1);
                Check.due("one of one", t.lostShare(0), 1.0f);
                t.jog(0, 2);
                Check.due("one of three", t.lostShare(0), 1.0f / 3.0f);
                t.jog(0, 10);
                Check.due("three of thirteen", t.lostShare(0), 3.0f / 13.0f);
                Check.due("another axis", t.lostShare(1), 0.0f);
                t.jog(1, 5);
                Check.due("none of five", t.lostShare(1), 0.0f);
                Tables.load(t, "");
                Check.due("loaded", t.lostShare(0), 0.0f);
            });
        axisRange(e, StepperTable::new, StepperTable::lostShare);
    }

    private static void promises59And60(Edges e) {
        e.section("Promise 59");
        e.says("Writes the queue to the output, in place of what it had: each target as its coordinates, separated by commas, with a space "
            + "between two targets; a dot if the queue is empty.").says("Returns the number of bytes.").holds(() -> {
                StepperTable t = Tables.homed("x 2000 0 9 9 0 0; y 2000 0 9 9 0 0; z 2000 0 9 9 0 0;");
                Check.due("empty", t.printQueue() + Tables.output(t), "1.");
                t.queue(0, 9, 10);
                Check.due("one", t.printQueue() + Tables.output(t), "60,9,10");
                t.queue(99, 100, 101);
                t.queue(999, 1000, 1001);
                t.queue(2000, 1999, 1010);
                Check.due("four", t.printQueue() + Tables.output(t), "460,9,10 99,100,101 999,1000,1001 2000,1999,1010");
                t.run(3);
                Check.due("a shorter one", t.printQueue() + Tables.output(t), "142000,1999,1010");
                t.run(1);
                Check.due("empty again", t.printQueue() + Tables.output(t), "1.");
                for (int n = 0; n < 16; n++) {
                    t.queue(1000, 1000, 1000 + n);
                }
                Check.due("the longest", t.printQueue(), 16 * 14 + 15);
                Check.due("its end", Tables.output(t).substring(224), " 1000,1000,1015");
                Check.due("not homed", new StepperTable().printQueue(), 1);
            });
        e.says("The output does not belong to what is undone or saved.").holds(() -> {
            StepperTable t = Tables.smallWithQueue();
            t.printQueue();
            t.saveState();
            t.unqueue();
            Check.due("behind a change", Tables.output(t), "10,5,0 20,10,0");
            t.printQueue();
            t.undo();
            Check.due("behind undo", Tables.output(t), "10,5,0");
            t.restoreState();
            Check.due("behind restoreState", Tables.output(t), "10,5,0");
            Tables.load(t, "x");
            Check.due("behind a text with an error", Tables.output(t), "10,5,0");
        });
        e.section("Promise 60");
        e.says("- `index`: index of the byte, from 0").says("Returns the byte; -1 if there is no such byte.").holds(() -> {
            StepperTable t = Tables.smallWithQueue();
            Check.due("no output", row(t::outputByte, 3), "-1 -1 -1");
            t.printQueue();
            Check.due("bytes", row(t::outputByte, 7), "49 48 44 53 44 48 32");
            Check.due("the last one", t.outputByte(13), (int) '0');
            for (int index : new int[] {-1, 14, 239, 599, 600, LEAST, GREATEST}) {
                Check.due("byte " + index, t.outputByte(index), -1);
            }
            t.reset();
            t.printQueue();
            Check.due("of a shorter output", row(t::outputByte, 3), "46 -1 -1");
        });
    }

    // ---- promises 61 to 63 ----

    private static void promise61(Edges e) {
        e.section("Promise 61");
        e.says("Undoes the latest change that was not undone.").holds(() -> {
            StepperTable t = new StepperTable();
            t.setStart(1);
            t.setStart(2);
            t.setStart(3);
            t.undo();
            Check.due("the third one", t.count(0), 2);
            t.undo();
            Check.due("the second one", t.count(0), 1);
            t.setStart(4);
            t.undo();
            Check.due("one that was made since", t.count(0), 1);
            t.undo();
            Check.due("the first one", t.count(0), 100);
        });
        e.says("Returns the number of changes that can still be undone; -1 if there was none.").holds(() -> {
            StepperTable t = new StepperTable();
            Check.due("none", t.undo(), -1);
            t.reset();
            Check.due("one", t.undo(), 0);
            Check.due("none again", t.undo(), -1);
            for (int n = 0; n < 11; n++) {
                t.reset();
            }
            for (int left = 9; left >= 0; left--) {
                Check.due("left", t.undo(), left);
            }
            Check.due("no eleventh", t.undo(), -1);
            Check.due("still none", t.undo(), -1);
            t.reset();
            Check.due("one more", t.undo(), 0);
        });
    }

    private static void promises62And63(Edges e) {
        e.section("Promise 62");
        e.says("Saves everything but the input buffer, the reported error, the output and the changes that can be undone, in place of an "
            + "earlier saved state.").holds(() -> {
                StepperTable t = turning();
                t.setStuck(2, 1);
                t.run(1);
                String saved = Tables.snapshot(t);
                Check.due("moves", t.saveState(), 2);
                Check.due("no change", Tables.snapshot(t), saved);
                t.printQueue();
                t.runAll();
                t.setStart(7);
                t.setStuck(2, 0);
                t.setCompensation(false);
                t.setDetection(true);
                t.jog(0, -50);
                t.reset();
                Tables.load(t, "  q");
                Tables.write(t, "start 9;");
                Check.due("restored", t.restoreState(), 2);
                String now = Tables.snapshot(t);
                int changes = saved.indexOf("time");
                Check.due("all but the changes", now.substring(now.indexOf("time")), saved.substring(changes));
                Check.due("settings, alarm, moves, homed axes", row(t::count, 7), "100 1 0 0 2 3 0");
                Check.due("the output stays", Tables.output(t), "2,1,0 2,1,1");
                Check.due("the error stays", t.errorCode() + " " + t.errorOffset(), "1 2");
                Check.due("the input stays", t.loadTable(), 600);
                Check.due("as it was", t.count(0), 9);
                StepperTable twice = new StepperTable();
                twice.setStart(5);
                twice.saveState();
                twice.setStart(6);
                twice.saveState();
                twice.setStart(7);
                twice.restoreState();
                Check.due("in place of the earlier one", twice.count(0), 6);
            });
        e.says("Returns the number of moves in the queue.").holds(() -> {
            Check.due("none", new StepperTable().saveState(), 0);
            Check.due("16", Tables.full().saveState(), 16);
        });
        e.section("Promise 63");
        e.says("Restores the saved state, which stays saved.").says("Returns the number of moves in the queue.").holds(() -> {
            StepperTable t = Tables.full();
            t.saveState();
            for (int round = 0; round < 3; round++) {
                t.run(16);
                t.setStart(round + 1);
                Check.due("moves", t.restoreState(), 16);
                Check.due("start", t.count(0), 100);
                Check.due("the last one", t.target(15, 0), 16);
            }
            t.setStart(9);
            t.undo();
            t.undo();
            Check.due("undoing leaves it", t.restoreState(), 16);
            StepperTable alarmed = Tables.alarmed();
            alarmed.saveState();
            alarmed.reset();
            Check.due("without moves", alarmed.restoreState(), 0);
            Check.due("the alarm", alarmed.count(3), 1);
        });
        e.says("Nothing can be undone then.").holds(() -> {
            StepperTable t = Tables.smallWithQueue();
            t.saveState();
            Check.due("saving takes no changes away", t.count(6), 3);
            t.restoreState();
            Check.due("changes", t.count(6), 0);
            Check.due("undo", t.undo(), -1);
            t.unqueue();
            Check.due("one change later", t.undo(), 0);
            Check.due("the queue", t.count(4), 2);
        });
        e.says("Throws `IllegalStateException` if no state is saved").holds(() -> {
            Check.dueThrow("new", NO_STATE, () -> new StepperTable().restoreState());
            StepperTable t = Tables.smallWithQueue();
            Check.dueThrow("changed", NO_STATE, t::restoreState);
            Check.due("nothing changed", t.count(6), 3);
            t.saveState();
            t.undo();
            t.undo();
            t.undo();
            Check.due("saved, changes undone", t.restoreState(), 2);
            Tables.load(t, "q");
            Check.due("still saved behind an error", t.restoreState(), 2);
            Tables.load(t, "");
            Check.dueThrow("loaded", NO_STATE, t::restoreState);
        });
    }

    public static void main(String[] args) throws IOException {
        Edges e = new Edges();
        promises01To03(e);
        promises04To06(e);
        promise07(e);
        promise08(e);
        promises09To12(e);
        promises13And14(e);
        promises15And16(e);
        promise17(e);
        promises18To20(e);
        promises21To23(e);
        promise24(e);
        promises25And26(e);
        promise27(e);
        promises28And29(e);
        promise30(e);
        promises31And32(e);
        promises33To36(e);
        promises37To39(e);
        promises40And41(e);
        promises42To44(e);
        promises45To47(e);
        promises48And49(e);
        promises50To52(e);
        promises53And54(e);
        promise55(e);
        promises56To58(e);
        promises59And60(e);
        promise61(e);
        promises62And63(e);
        e.end("Promise ", PLAIN);
        Check.end("PromiseEdgesTest");
    }
}
