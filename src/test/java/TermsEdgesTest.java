import java.io.IOException;
import java.util.NoSuchElementException;
import java.util.Set;

/** The document's terms: each sentence that names a boundary case has a test of its own. */
public final class TermsEdgesTest {
    private static final Class<IndexOutOfBoundsException> NO_INDEX = IndexOutOfBoundsException.class;
    private static final Class<IllegalArgumentException> NO_ARGUMENT = IllegalArgumentException.class;
    private static final Class<IllegalStateException> NO_STATE = IllegalStateException.class;
    private static final Class<NoSuchElementException> NO_ELEMENT = NoSuchElementException.class;
    private static final int SYNTAX = StepperTable.SYNTAX;
    private static final int OUT_OF_RANGE = StepperTable.OUT_OF_RANGE;
    private static final int MISPLACED = StepperTable.MISPLACED;

    /** Sentences that name no boundary, or whose boundary a sentence beside them names. */
    private static final Set<String> PLAIN = Set.of("A table with three axes that are driven by stepping motors: backlash, end "
        + "stops, switches with hysteresis for homing, moves on straight lines with ramps that are planned ahead over a queue, "
        + "compensation, lost steps, alarms, forecasts and accounts.", "Axes.", "The switch of an axis is closed or open.", "Moves.",
        "A move is made as follows.", "Setup text.", "N stands for a number:");

    private TermsEdgesTest() {
    }

    // ---- axes ----

    private static void dueJog(StepperTable t, int steps, String place) {
        t.jog(0, steps);
        Check.due("place behind " + steps + " steps", Tables.place(t, 0), place);
    }

    private static void dueReads(StepperTable t, int steps, boolean closed) {
        t.jog(0, steps);
        Check.due("at " + t.axis(0, 6) + " behind " + steps, t.readsClosed(0), closed);
    }

    /** Loads an axis that has six numbers in range but, perhaps, for one. */
    private static void dueRange(int axis, int slot, int value, boolean fits) {
        int[] numbers = {2000, 3, 7, 7, 1, 3};
        numbers[slot] = value;
        StringBuilder text = new StringBuilder().append("xyz".charAt(axis));
        int offset = 0;
        for (int i = 0; i < numbers.length; i++) {
            offset = i == slot ? text.length() + 1 : offset;
            text.append(' ').append(numbers[i]);
        }
        StepperTable t = new StepperTable();
        Tables.load(t, text.append(';').toString());
        Check.due("code of " + text, t.errorCode(), fits ? StepperTable.NO_ERROR : OUT_OF_RANGE);
        Check.due("offset of " + text, t.errorOffset(), fits ? -1 : offset);
        if (fits) {
            Check.due("number of " + text, t.axis(axis, slot), value);
        }
    }

    private static void ranges() {
        int[] least = {1, 0, 1, 1, 0, 0};
        int[] greatest = {2000, 20, 5000, 500, 2000, 20};
        for (int axis = 0; axis < 3; axis++) {
            for (int slot = 0; slot < 6; slot++) {
                dueRange(axis, slot, least[slot], true);
                dueRange(axis, slot, greatest[slot], true);
                dueRange(axis, slot, greatest[slot] + 1, false);
                if (least[slot] > 0) {
                    dueRange(axis, slot, least[slot] - 1, false);
                }
            }
        }
        dueLoad("x 9 0 1 1 9 0;", 409);
        dueFault("x 9 0 1 1 10 0;", OUT_OF_RANGE, 10);
        dueFault("z 1 0 1 1 2 0;", OUT_OF_RANGE, 10);
    }

    private static void axes(Edges e) {
        e.says("The axes x, y and z are numbered 0 to 2.").holds(() -> {
            StepperTable t = Tables.loaded("z 13 0 1 1 0 0; x 11 0 1 1 0 0; y 12 0 1 1 0 0;");
            for (int axis = 0; axis < 3; axis++) {
                Check.due("length of " + axis, t.axis(axis, 0), 11 + axis);
            }
            Check.dueThrow("axis -1", NO_INDEX, () -> t.axis(-1, 0));
            Check.dueThrow("axis 3", NO_INDEX, () -> t.axis(3, 0));
        });
        e.says("An axis has a length (1 to 2000), a backlash (0 to 20), a top speed (1 to 5000 steps per second), an "
            + "acceleration (1 to 500), a switch position (0 to its length) and a hysteresis (0 to 20).")
            .holds(TermsEdgesTest::ranges);
        e.says("The table of an axis is at a true position, 0 to the length; at 0 and at the length there are end stops.")
            .holds(() -> {
                StepperTable t = Tables.loaded("x 101 0 1 1 0 0; y 1 0 1 1 0 0;");
                dueJog(t, -1, "0 0 1");
                dueJog(t, 100, "100 0 1");
                dueJog(t, 1, "101 0 1");
                dueJog(t, 1, "101 0 2");
                t.jog(1, 1);
                t.jog(1, 1);
                Check.due("length 1", Tables.place(t, 1), "1 0 1");
            });
        e.says("Its slack is 0 to the backlash.").holds(() -> {
            StepperTable t = Tables.loaded("x 50 20 1 1 0 0;");
            dueJog(t, 19, "0 19 0");
            dueJog(t, 1, "0 20 0");
            dueJog(t, 1, "1 20 0");
            dueJog(t, -20, "1 0 0");
            dueJog(t, -1, "0 0 0");
            t.jog(1, 1);
            Check.due("no backlash", Tables.place(t, 1), "1 0 0");
        });
        e.says("A step of the motor forward increases the slack by 1 if it is less than the backlash, otherwise the true "
            + "position, if that is less than the length; otherwise the step is lost.").holds(() -> {
                StepperTable t = Tables.loaded("x 3 2 9 9 0 0;");
                for (String due : new String[] {"0 1 0", "0 2 0", "1 2 0", "2 2 0", "3 2 0", "3 2 1", "3 2 2"}) {
                    dueJog(t, 1, due);
                }
            });
        e.says("A step backward decreases the slack by 1 if it is greater than 0, otherwise the true position, if that is "
            + "greater than 0; otherwise the step is lost.").holds(() -> {
                StepperTable t = Tables.loaded("x 3 2 9 9 0 0; begin 3 0 0;");
                dueJog(t, 2, "3 2 0");
                for (String due : new String[] {"3 1 0", "3 0 0", "2 0 0", "1 0 0", "0 0 0", "0 0 1", "0 0 2"}) {
                    dueJog(t, -1, due);
                }
                dueJog(t, 1, "0 1 2");
                dueJog(t, -2, "0 0 3");
            });
        e.says("The motor counts all its steps, forward ones as 1, backward ones as -1, lost ones too.").holds(() -> {
            StepperTable t = Tables.loaded("x 3 2 9 9 0 0;");
            int[][] due = {{-4, -4}, {1, -3}, {9, 6}, {-1, 5}};
            for (int[] pair : due) {
                t.jog(0, pair[0]);
                Check.due("counted behind " + pair[0], t.axis(0, 8), pair[1]);
            }
        });
        e.says("The latest direction of an axis is that of its latest step, lost ones too; forward at first.").holds(() -> {
            StepperTable t = Tables.loaded("x 3 0 9 9 0 0; begin 0 3 0;");
            Check.due("at first", t.axis(0, 12), 1);
            t.jog(0, -1);
            Check.due("lost backward", t.axis(0, 12), -1);
            Check.due("another axis", t.axis(1, 12), 1);
            t.jog(0, 100);
            t.jog(0, -1);
            t.jog(0, 1);
            t.jog(0, 1);
            Check.due("lost forward", t.axis(0, 12), 1);
            t.jog(0, -1);
            Check.due("backward", t.axis(0, 12), -1);
        });
    }

    private static void switches(Edges e) {
        e.says("Whenever the true position is at most the switch position, it closes; whenever it is greater than the "
            + "switch position + the hysteresis, it opens; otherwise it stays as it is.").holds(() -> {
                StepperTable t = Tables.loaded("x 30 0 9 9 5 3; begin 10 0 0;");
                dueReads(t, -1, false);
                dueReads(t, -3, false);
                dueReads(t, -1, true);
                dueReads(t, 1, true);
                dueReads(t, 2, true);
                dueReads(t, 1, false);
                dueReads(t, -1, false);
                dueReads(t, -8, true);
                StepperTable narrow = Tables.loaded("x 30 0 9 9 5 0; begin 6 0 0;");
                dueReads(narrow, -1, true);
                dueReads(narrow, 1, false);
                StepperTable low = Tables.loaded("x 30 0 9 9 0 0;");
                dueReads(low, 1, false);
                dueReads(low, -1, true);
                StepperTable high = Tables.loaded("x 4 0 9 9 4 0; begin 4 0 0;");
                dueReads(high, 1, true);
                StepperTable loose = Tables.loaded("x 30 2 9 9 5 0; begin 5 0 0;");
                dueReads(loose, 2, true);
                dueReads(loose, 1, false);
                dueReads(loose, -2, false);
                dueReads(loose, -1, true);
            });
        e.says("At first it is closed if the true position is at most the switch position.").holds(() -> {
            for (int begin = 0; begin <= 9; begin++) {
                StepperTable t = Tables.loaded("x 9 0 9 9 5 2; begin " + begin + " 0 0;");
                Check.due("beginning at " + begin, t.readsClosed(0), begin <= 5);
            }
        });
        e.says("A switch may be stuck: it reads open (1) or closed (2) then, whatever it is; if it is not stuck (0), it "
            + "reads what it is.").holds(() -> {
                StepperTable t = Tables.loaded("x 30 0 9 9 5 3; begin 10 0 0;");
                t.setStuck(0, 2);
                dueReads(t, -1, true);
                t.setStuck(0, 1);
                dueReads(t, -5, false);
                t.setStuck(0, 0);
                Check.due("it closed while it was stuck", t.readsClosed(0), true);
                t.setStuck(0, 2);
                dueReads(t, 5, true);
                t.setStuck(0, 0);
                Check.due("it opened while it was stuck", t.readsClosed(0), false);
                t.setStuck(0, 1);
                t.jog(0, -4);
                t.jog(0, 3);
                t.setStuck(0, 0);
                Check.due("it closed and stayed so", t.readsClosed(0), true);
            });
    }

    private static void dueHoming(String text, int answer, int backward, int forward) {
        StepperTable t = Tables.loaded(text);
        Check.due("homing of " + text, t.home(0), answer);
        Check.due("backward steps of " + text, t.account(0, 1), backward);
        Check.due("forward steps of " + text, t.account(0, 0), forward);
        Check.due("homed by " + text, t.axis(0, 11), answer < 0 ? 0 : 1);
    }

    private static void mostHomingSteps() {
        StepperTable open = Tables.loaded("x 9 4 1 1 0 0; begin 5 0 0;");
        open.setStuck(0, 1);
        Check.due("stuck open", open.home(0), -1);
        Check.due("alarm of the first part", open.count(3), 1);
        Check.due("steps of the first part", open.account(0, 1), 9 + 4 + 1);
        Check.due("no steps of the second part", open.account(0, 0), 0);
        StepperTable shut = Tables.loaded("x 9 4 1 1 0 0; begin 5 0 0;");
        shut.setStuck(0, 2);
        Check.due("stuck closed", shut.home(0), -1);
        Check.due("alarm of the second part", shut.count(3), 2);
        Check.due("no steps of the first part", shut.account(0, 1), 0);
        Check.due("steps of the second part", shut.account(0, 0), 9 + 4 + 1);
        dueHoming("x 9 4 1 1 5 3;", 13, 0, 13);
        dueHoming("x 9 4 1 1 5 4;", -1, 0, 14);
        dueHoming("x 1 0 1 1 1 0;", -1, 0, 2);
        dueHoming("x 2000 20 1 1 1999 0;", 2020, 0, 2020);
        dueHoming("x 2000 20 1 1 2000 0; begin 2000 0 0;", -1, 0, 2021);
        StepperTable far = Tables.loaded("x 9 4 1 1 0 8; begin 9 0 0;");
        far.jog(0, 4);
        Check.due("the whole way back and forth", far.home(0), 13 + 13);
        StepperTable again = Tables.small();
        again.setStuck(0, 1);
        again.home(0);
        Check.due("not homed any more", again.axis(0, 11), 0);
        Check.due("the others stay homed", again.count(5), 2);
    }

    private static void homing(Edges e) {
        e.says("Homing of an axis: the motor steps backward until the switch reads closed, then forward until it reads open "
            + "(no step if it reads so already).").holds(() -> {
                dueHoming("x 30 2 9 9 5 3; begin 3 0 0;", 8, 0, 8);
                dueHoming("x 30 2 9 9 5 3; begin 5 0 0;", 6, 0, 6);
                dueHoming("x 30 2 9 9 5 3; begin 6 0 0;", 7, 1, 6);
                dueHoming("x 30 2 9 9 5 3; begin 9 0 0;", 10, 4, 6);
                dueHoming("x 30 2 9 9 0 0; begin 1 0 0;", 4, 1, 3);
                StepperTable t = Tables.loaded("x 30 2 9 9 5 3; begin 10 0 0;");
                t.setStuck(0, 2);
                t.home(0);
                Check.due("stuck closed: no step backward", t.account(0, 1), 0);
            });
        e.says("In each of the two parts it makes at most length + backlash + 1 steps; if the switch does not read as it "
            + "should then, there is the alarm 1 (first part) or 2 (second part), and the axis is not homed.")
            .holds(TermsEdgesTest::mostHomingSteps);
        e.says("Otherwise the axis is homed: its coordinate is 0 here, and its zero is its true position now.").holds(() -> {
            StepperTable t = Tables.small();
            t.queue(10, 5, 1);
            t.runAll();
            t.home(0);
            Check.due("coordinate", t.coordinate(0), 0);
            Check.due("error", t.error(0), 0);
            Check.due("true position", t.axis(0, 6), 8);
            Check.due("another axis", t.coordinate(1), 5);
        });
        e.says("Lost steps of homing are not detected.").holds(() -> {
            StepperTable t = Tables.small();
            t.setDetection(true);
            t.setStuck(0, 1);
            t.home(0);
            Check.due("lost", t.axis(0, 9) > 0, true);
            Check.due("alarm", t.count(3), 1);
            Check.due("the others stay homed", t.count(5), 2);
            t.reset();
            t.setStuck(0, 2);
            t.home(0);
            Check.due("alarm", t.count(3), 2);
        });
        e.says("A step of the first part lasts 1000000 / start, rounded down, one of the second part 4 times as long.")
            .holds(() -> {
                int[][] due = {{300, 3333}, {1000, 1000}, {1, 1000000}, {999, 1001}};
                for (int[] pair : due) {
                    StepperTable t = Tables.loaded("x 30 0 9 9 5 3; begin 9 0 0; start " + pair[0] + ";");
                    Check.due("steps", t.home(0), 4 + 4);
                    Check.due("time with start " + pair[0], t.time(), 4L * pair[1] + 4L * (4 * pair[1]));
                }
                StepperTable failed = Tables.loaded("x 9 0 1 1 0 0;");
                failed.setStuck(0, 1);
                failed.home(0);
                Check.due("a failed first part", failed.time(), 10 * 10000L);
                failed.reset();
                failed.setStuck(0, 2);
                failed.home(0);
                Check.due("a failed second part", failed.time(), 10 * 10000L + 10 * 40000L);
            });
        e.says("An axis that is homed has a coordinate, the number of steps from its zero that it should be at.")
            .holds(() -> {
                StepperTable t = Tables.homed("x 9 0 9 9 0 0;");
                t.queue(9, 0, 0);
                t.runAll();
                Check.due("where it should be, beyond the end stop", t.coordinate(0), 9);
                t.jog(0, 1);
                Check.dueThrow("not homed, no coordinate", NO_STATE, () -> t.coordinate(0));
            });
        e.says("The error of the axis is its true position - its zero - its coordinate.").holds(() -> {
            StepperTable t = Tables.homed("x 9 2 9 9 0 0;");
            Check.due("none", t.error(0), 0);
            t.queue(9, 0, 0);
            t.runAll();
            Check.due("9 - 1 - 9", t.error(0), -1);
            t.queue(7, 0, 0);
            t.runAll();
            Check.due("9 - 1 - 7", t.error(0), 1);
            t.queue(6, 0, 0);
            t.runAll();
            Check.due("8 - 1 - 6", t.error(0), 1);
        });
    }

    // ---- moves ----

    private static void dueMoves(StepperTable t, int what, int... due) {
        for (int move = 0; move < due.length; move++) {
            Check.due("property " + what + " of the move " + move, t.move(move, what), due[move]);
        }
    }

    private static StepperTable queued(String text, int[]... targets) {
        StepperTable t = Tables.homed(text);
        for (int[] target : targets) {
            t.queue(target[0], target[1], target[2]);
        }
        return t;
    }

    private static int[] at(int x, int y, int z) {
        return new int[] {x, y, z};
    }

    private static void queueTerms(Edges e) {
        e.says("A queue holds at most 16 targets, each with three coordinates.").holds(() -> {
            StepperTable t = Tables.quick();
            for (int n = 1; n <= 16; n++) {
                Check.due("target " + n, t.queue(n, n + 1, n + 2), n);
            }
            Check.dueThrow("a 17th one", NO_STATE, () -> t.queue(50, 50, 50));
            Check.dueThrow("a 17th one ahead", NO_STATE, () -> t.insert(0, 50, 50, 50));
            for (int n = 1; n <= 16; n++) {
                Check.due("coordinates", Tables.target(t, n - 1), n + "," + (n + 1) + "," + (n + 2));
            }
            t.unqueue();
            Check.due("room again", t.queue(0, 0, 0), 16);
        });
        e.says("A move goes from the coordinates to the first target, the next one from there to the next target, and so on.")
            .holds(() -> {
                StepperTable t = queued(Tables.QUICK, at(10, 0, 0), at(13, 0, 0), at(13, 7, 0));
                dueMoves(t, 0, 10, 3, 7);
                t.run(1);
                dueMoves(t, 0, 3, 7);
                t.dropTarget(0);
                dueMoves(t, 0, 7);
                Check.due("from 10, 0, 0", t.pointAt(0, 0, 0), 10);
            });
        e.says("The distance of a move along an axis is the difference of the coordinates; its lead is the greatest absolute "
            + "distance.").holds(() -> {
                StepperTable t = queued(Tables.QUICK, at(3, 5, 4), at(7, 0, 6), at(6, 2, 0), at(9, 5, 3), at(9, 5, 2));
                dueMoves(t, 0, 5, 5, 6, 3, 1);
                Check.due("longest", queued("x 2000 0 1 1 0 0;", at(2000, 0, 0)).move(0, 0), 2000);
            });
        e.says("Its cruise is the smallest of top * lead / |distance|, rounded down, over all axes with a distance other than "
            + "0; its gain is the smallest of acceleration * lead / |distance|, rounded down, over the same axes.").holds(() -> {
                String text = "x 100 0 100 100 0 0; y 100 0 33 7 0 0; z 100 0 1 1 0 0;";
                StepperTable t = queued(text, at(3, 2, 0), at(0, 0, 0), at(3, 2, 1), at(4, 2, 1), at(4, 2, 0));
                // 33 * 3 / 2 is 49.5 and 7 * 3 / 2 is 10.5; z, where it moves, limits to 1 * 3 / 1
                dueMoves(t, 1, 49, 49, 3, 100, 1);
                dueMoves(t, 2, 10, 10, 3, 100, 1);
                StepperTable fast = queued("x 2000 0 5000 500 0 0; y 2000 0 5000 500 0 0;", at(2000, 1, 0));
                Check.due("the axis of the lead limits to its top", fast.move(0, 1), 5000);
                Check.due("and to its acceleration", fast.move(0, 2), 500);
            });
        e.says("Two moves, one behind the other, go on straight if for each axis the distance of the one times the lead of the "
            + "other is the distance of the other times the lead of the one.").holds(() -> {
                dueMoves(queued(Tables.QUICK, at(1, 2, 0), at(3, 6, 0), at(2, 4, 0), at(0, 0, 0)), 7, 1, 0, 1, 0);
                dueMoves(queued(Tables.QUICK, at(3, 2, 0), at(7, 5, 0)), 7, 0, 0);
                dueMoves(queued(Tables.QUICK, at(2, 3, 0), at(5, 7, 0)), 7, 0, 0);
                dueMoves(queued(Tables.QUICK, at(2, 0, 1), at(6, 0, 3), at(10, 0, 4)), 7, 1, 0, 0);
                dueMoves(queued(Tables.QUICK, at(1, 0, 0), at(2, 1, 0), at(3, 2, 0), at(3, 3, 0)), 7, 0, 1, 0, 0);
                dueMoves(queued(Tables.QUICK, at(20, 40, 60), at(21, 42, 63), at(31, 62, 92)), 7, 1, 0, 0);
            });
    }

    private static void speeds(Edges e) {
        e.says("The speed between two moves is at most the smaller one of their cruises if they go on straight, otherwise at "
            + "most the smallest of start and both cruises").holds(() -> {
                String text = "x 100 0 900 500 0 0; y 100 0 40 500 0 0; z 100 0 900 500 0 0;";
                StepperTable straight = queued(text, at(10, 0, 0), at(20, 0, 0));
                Check.due("straight", straight.move(0, 4), 900);
                StepperTable t = queued(text, at(10, 0, 0), at(10, 10, 0), at(20, 10, 0), at(20, 10, 9));
                dueMoves(t, 4, 40, 40, 100);
                t.setStart(40);
                dueMoves(t, 4, 40, 40, 40);
                t.setStart(39);
                dueMoves(t, 4, 39, 39, 39);
                t.setStart(1000);
                dueMoves(t, 4, 40, 40, 900);
            });
        e.says("the speed ahead of the first move and behind the last one is the smaller one of start and its cruise.")
            .holds(() -> {
                StepperTable t = queued("x 100 0 40 500 0 0;", at(9, 0, 0));
                int[][] due = {{39, 39}, {40, 40}, {41, 40}, {1000, 40}, {1, 1}};
                for (int[] pair : due) {
                    t.setStart(pair[0]);
                    Check.due("ahead with start " + pair[0], t.move(0, 3), pair[1]);
                    Check.due("behind with start " + pair[0], t.move(0, 4), pair[1]);
                }
            });
        String slow = "x 100 0 1000 10 0 0; z 100 0 7 10 0 0; start 50;";
        e.says("the speed ahead of a move is at most the speed behind it + gain * lead;").holds(() -> {
            StepperTable t = queued(slow, at(2, 0, 0), at(4, 0, 0), at(4, 0, 1));
            dueMoves(t, 3, 47, 27, 7);
            dueMoves(t, 4, 27, 7, 7);
            StepperTable reached = queued(slow, at(4, 0, 0), at(8, 0, 0), at(8, 0, 1));
            dueMoves(reached, 3, 50, 47, 7);
        });
        e.says("then from the first move to the last one: the speed behind a move is at most the speed ahead of it + gain * "
            + "lead.").holds(() -> {
                StepperTable t = queued(slow, at(0, 0, 1), at(2, 0, 1), at(4, 0, 1), at(9, 0, 1));
                dueMoves(t, 3, 7, 7, 27, 47);
                dueMoves(t, 4, 7, 27, 47, 50);
                StepperTable both = queued(slow, at(1, 0, 0), at(2, 0, 0), at(3, 0, 0), at(4, 0, 0));
                dueMoves(both, 3, 50, 60, 70, 60);
            });
        e.says("The speed of the step k of a move (k from 0 to lead - 1) is the smallest of its cruise, the speed ahead of it "
            + "+ gain * k, and the speed behind it + gain * (lead - 1 - k).").holds(() -> {
                StepperTable t = queued("x 100 0 65 10 0 0; start 50;", at(5, 0, 0), at(6, 0, 0), at(5, 0, 0));
                int[] due = {50, 60, 65, 65, 60};
                for (int k = 0; k < due.length; k++) {
                    Check.due("step " + k, t.speed(0, k), due[k]);
                }
                Check.dueThrow("step -1", NO_ELEMENT, () -> t.speed(0, -1));
                Check.dueThrow("step 5", NO_ELEMENT, () -> t.speed(0, 5));
                Check.due("one step alone", t.speed(1, 0), 50);
                StepperTable even = queued("x 100 0 999 10 0 0; start 50;", at(4, 0, 0));
                int[] ramps = {50, 60, 60, 50};
                for (int k = 0; k < ramps.length; k++) {
                    Check.due("step " + k + " of 4", even.speed(0, k), ramps[k]);
                }
            });
        e.says("The step lasts 1000000 / this speed, rounded down.").holds(() -> {
            StepperTable t = queued("x 100 0 65 10 0 0; start 50;", at(5, 0, 0));
            Check.due("50, 60, 65, 60, 50", t.queueTime(), 20000L + 16666 + 15384 + 16666 + 20000);
            long before = t.time();
            t.runAll();
            Check.due("as it passes", t.time() - before, 88716L);
            StepperTable slowest = queued("x 100 0 1 1 0 0;", at(1, 0, 0));
            Check.due("speed 1", slowest.queueTime(), 1000000L);
            StepperTable fastest = queued("x 2000 0 5000 500 0 0; start 1000;", at(1000, 0, 0));
            Check.due("speed 5000", fastest.speed(0, 500), 5000);
            Check.due("lasts 200", fastest.whereAt(0, (int) fastest.queueTime()) - fastest.whereAt(0,
                (int) fastest.queueTime() - 1), 1);
        });
    }

    // ---- how a move is made ----

    private static void compensation() {
        StepperTable t = Tables.homed("x 100 3 1000 100 0 0; y 100 2 1000 100 0 0; z 100 0 1000 100 0 0; compensate; start 300;");
        // targets, then the compensation steps of x, y and z, and what the move lasts
        int[][] moves = {{10, 10, 10, 0, 0, 0, 0}, {10, 9, 10, 0, 2, 0, 3}, {9, 8, 9, 3, 2, 0, 4}, {10, 8, 9, 6, 2, 0, 4},
            {11, 9, 10, 6, 4, 0, 3}};
        for (int[] m : moves) {
            long before = t.time();
            t.queue(m[0], m[1], m[2]);
            t.run(1);
            for (int axis = 0; axis < 3; axis++) {
                Check.due("to " + m[0] + ", " + m[1] + ": compensation of " + axis, t.account(axis, 2), m[3 + axis]);
            }
            if (m[6] > 0) {
                Check.due("to " + m[0] + ", " + m[1] + ": steps of 1000000 / 300", t.time() - before, m[6] * 3333L);
            }
        }
        StepperTable back = queued("x 9 3 100 10 0 0; z 9 4 100 10 0 0; compensate;", at(1, 0, 0), at(0, 0, 0));
        back.runAll();
        Check.due("x turns, in the second move alone", back.account(0, 2), 3);
        Check.due("z, which does not move", back.account(2, 2), 0);
        t.setCompensation(false);
        t.queue(10, 9, 10);
        t.run(1);
        Check.due("off", t.account(0, 2), 6);
        Check.due("off, but a reversal", t.account(0, 5), 3);
    }

    /** At the end stop of one of two axes, each with a part of its slack left, both having gone backward. */
    private static StepperTable atTheEnd(String text) {
        StepperTable t = queued(text, at(19, 19, 0), at(18, 18, 0));
        t.runAll();
        t.setCompensation(true);
        t.setDetection(true);
        t.queue(19, 19, 0);
        return t;
    }

    private static void axisByAxis() {
        StepperTable x = atTheEnd("x 20 5 1000 100 0 0; y 40 5 1000 100 0 0; z 9 0 9 9 0 0;");
        Check.due("x stops it", x.run(1), 0);
        Check.due("x gets two steps", x.account(0, 2), 2);
        Check.due("y gets none", x.account(1, 2), 0);
        StepperTable y = atTheEnd("x 40 5 1000 100 0 0; y 20 5 1000 100 0 0; z 9 0 9 9 0 0;");
        Check.due("y stops it", y.run(1), 0);
        Check.due("x gets all of its steps", y.account(0, 2), 5);
        Check.due("y gets two", y.account(1, 2), 2);
    }

    private static void dueSteps(int lead, int distance, int... due) {
        StepperTable t = queued(Tables.QUICK, at(lead, distance, 0), at(0, 0, 0));
        for (int k = 0; k <= lead; k++) {
            Check.due(distance + " of " + lead + " behind " + k, t.stepsBehind(0, 1, k), due[k]);
            Check.due("backward, " + distance + " of " + lead + " behind " + k, t.stepsBehind(1, 1, k), due[k]);
        }
    }

    /** All three axes step in the fifth step of the move, in which one of them loses its step. */
    private static void dueOrder(String text, String x, String y, String z) {
        StepperTable t = queued(text + "detect;", at(5, 5, 5));
        t.runAll();
        Check.due("x of " + text, Tables.place(t, 0), x);
        Check.due("y of " + text, Tables.place(t, 1), y);
        Check.due("z of " + text, Tables.place(t, 2), z);
    }

    private static void making(Edges e) {
        e.says("If compensation is on, each axis with a distance other than 0 whose direction is not its latest direction "
            + "makes as many steps in the new direction as its backlash").says("each of these lasts 1000000 / start, rounded "
            + "down.").holds(TermsEdgesTest::compensation);
        e.says("axis by axis;").holds(TermsEdgesTest::axisByAxis);
        e.says("behind k of these steps an axis has made (2 * k * |distance| + lead) / (2 * lead) steps, rounded down, in its "
            + "direction").holds(() -> {
                dueSteps(1, 1, 0, 1);
                dueSteps(1, 0, 0, 0);
                dueSteps(3, 1, 0, 0, 1, 1);
                dueSteps(3, 2, 0, 1, 1, 2);
                dueSteps(4, 0, 0, 0, 0, 0, 0);
                dueSteps(4, 1, 0, 0, 1, 1, 1);
                dueSteps(4, 2, 0, 1, 1, 2, 2);
                dueSteps(4, 3, 0, 1, 2, 2, 3);
                dueSteps(4, 4, 0, 1, 2, 3, 4);
                StepperTable far = queued("x 2000 0 9 9 0 0; y 2000 0 9 9 0 0;", at(2000, 1999, 0));
                Check.due("1999 of 2000 behind 1000", far.stepsBehind(0, 1, 1000), 1000);
                Check.due("1999 of 2000 behind 1001", far.stepsBehind(0, 1, 1001), 1000);
                Check.due("1999 of 2000 behind 2000", far.stepsBehind(0, 1, 2000), 1999);
                StepperTable made = queued(Tables.QUICK, at(4, 3, 0), at(0, 1, 0));
                made.run(1);
                Check.due("forward", made.axis(1, 6), 1 + 3);
                made.run(1);
                Check.due("backward", made.axis(1, 6), 1 + 1);
            });
        e.says("(axes step in the order of their numbers).").holds(() -> {
            String longer = " 9 0 9 9 0 0;";
            String shorter = " 5 0 9 9 0 0;";
            dueOrder("x" + shorter + "y" + longer + "z" + longer, "5 0 1", "5 0 0", "5 0 0");
            dueOrder("x" + longer + "y" + shorter + "z" + longer, "6 0 0", "5 0 1", "5 0 0");
            dueOrder("x" + longer + "y" + longer + "z" + shorter, "6 0 0", "6 0 0", "5 0 1");
        });
        e.says("The coordinates are those of the target then.").holds(() -> {
            StepperTable t = queued("x 9 0 9 9 0 0; y 9 3 9 9 0 0;", at(9, 5, 0), at(9, 4, 1));
            t.run(1);
            Check.due("x, behind a lost step", t.coordinate(0), 9);
            Check.due("y", t.coordinate(1), 5);
            t.run(1);
            Check.due("x again", t.coordinate(0), 9);
            Check.due("y, in its backlash", t.coordinate(1), 4);
            Check.due("z", t.coordinate(2), 1);
        });
    }

    private static void detection(Edges e) {
        e.says("If detection is on, a lost step of a move or of its compensation stops everything behind this step: there is "
            + "the alarm 3, the queue is empty, and no axis is homed.").holds(() -> {
                StepperTable t = queued("x 9 0 9 9 0 0; detect;", at(8, 0, 0), at(9, 0, 0), at(9, 9, 9));
                Check.due("the step to the end stop is none that is lost", t.run(1), 1);
                Check.due("no alarm", t.count(3), 0);
                Check.due("the next one is lost", t.runAll(), 0);
                Check.due("one lost step", Tables.place(t, 0), "9 0 1");
                Check.due("nothing behind it", t.axis(1, 6), 8);
                Check.due("alarm", t.count(3), 3);
                Check.due("queue", t.count(4), 0);
                Check.due("homed", t.count(5), 0);
                StepperTable off = queued("x 9 0 9 9 0 0;", at(9, 0, 0), at(9, 9, 0));
                Check.due("without detection", off.runAll(), 2);
                Check.due("no alarm without it", off.count(3), 0);
                StepperTable turning = atTheEnd("x 20 5 1000 100 0 0; y 40 5 1000 100 0 0; z 9 0 9 9 0 0;");
                turning.run(1);
                Check.due("alarm of compensation", turning.count(3), 3);
                Check.due("queue of compensation", turning.count(4), 0);
                Check.due("homed then", turning.count(5), 0);
            });
        e.says("(The time of the step k passes before its motor steps, that of a compensation step before it.)").holds(() -> {
            StepperTable t = queued("x 9 0 10 9 0 0; detect;", at(9, 0, 0));
            long before = t.time();
            t.runAll();
            Check.due("nine steps, the ninth one lost", t.time() - before, 9 * 100000L);
            StepperTable turning = atTheEnd("x 20 5 1000 100 0 0; y 40 5 1000 100 0 0; z 9 0 9 9 0 0;");
            long ahead = turning.time();
            turning.run(1);
            Check.due("two compensation steps, the second one lost", turning.time() - ahead, 20000L);
        });
    }

    // ---- setup text ----

    private static void dueLoad(String text, int lengths) {
        StepperTable t = new StepperTable();
        Check.due("load of " + text, Tables.load(t, text), lengths);
        Check.due("code of " + text, t.errorCode(), StepperTable.NO_ERROR);
        Check.due("offset of " + text, t.errorOffset(), -1);
    }

    private static void dueFault(String text, int code, int offset) {
        StepperTable t = new StepperTable();
        Check.due("load of " + text, Tables.load(t, text), -1);
        Check.due("code of " + text, t.errorCode(), code);
        Check.due("offset of " + text, t.errorOffset(), offset);
    }

    private static void dueProperties(StepperTable t, int axis, int... due) {
        for (int what = 0; what < due.length; what++) {
            Check.due("property " + what + " of the axis " + axis, t.axis(axis, what), due[what]);
        }
    }

    private static void statements(Edges e) {
        e.says("The input buffer holds at most 600 bytes.").holds(() -> {
            dueLoad(" ".repeat(600), 600);
            StepperTable t = new StepperTable();
            Tables.load(t, " ".repeat(592) + "start 7;");
            Check.due("the 600th byte", t.count(0), 7);
            dueFault(" ".repeat(599) + "q", SYNTAX, 599);
            dueFault(" ".repeat(599) + "x", SYNTAX, 600);
            dueFault(" ".repeat(594) + "detect", SYNTAX, 600);
            Tables.write(t, " ".repeat(600));
            Check.due("20 more", t.appendInput(0, 0, 0, 0, 0), -1);
        });
        e.says("The text is a sequence of statements, each followed by a semicolon.").holds(() -> {
            dueLoad("detect;compensate;", 600);
            dueFault("detect compensate;", SYNTAX, 7);
            dueFault("detect;compensate", SYNTAX, 17);
            dueFault(";", SYNTAX, 0);
            dueFault("detect;;", SYNTAX, 7);
        });
        e.says("x N N N N N N    length, backlash, top speed, acceleration, switch position, hysteresis of the axis x; likewise "
            + "y and z; without it 200, 0, 1000, 100, 5, 2").holds(() -> {
                StepperTable t = Tables.loaded("z 30 7 400 50 6 8; x 10 1 200 30 4 5;");
                dueProperties(t, 0, 10, 1, 200, 30, 4, 5);
                dueProperties(t, 1, 200, 0, 1000, 100, 5, 2);
                dueProperties(t, 2, 30, 7, 400, 50, 6, 8);
                StepperTable y = Tables.loaded("y 20 3 300 40 5 6;");
                dueProperties(y, 0, 200, 0, 1000, 100, 5, 2);
                dueProperties(y, 1, 20, 3, 300, 40, 5, 6);
                dueProperties(y, 2, 200, 0, 1000, 100, 5, 2);
                dueFault("x 9 0 1 1 0;", SYNTAX, 11);
                dueFault("x 9 0 1 1 0 0 0;", SYNTAX, 14);
                Tables.load(y, "");
                dueProperties(y, 1, 200, 0, 1000, 100, 5, 2);
            });
        e.says("begin N N N      the true positions, 0 to the length of the axis; 0 without it").holds(() -> {
            StepperTable t = Tables.loaded("x 10 0 1 1 0 0; y 20 0 1 1 0 0; begin 10 20 200;");
            Check.due("lengths", t.axis(0, 6) + " " + t.axis(1, 6) + " " + t.axis(2, 6), "10 20 200");
            Tables.load(t, "x 10 0 1 1 0 0; begin 0 0 0;");
            Check.due("zeros", t.axis(0, 6) + " " + t.axis(1, 6) + " " + t.axis(2, 6), "0 0 0");
            Tables.load(t, "begin 1 2 3;");
            Check.due("in their order", t.axis(0, 6) + " " + t.axis(1, 6) + " " + t.axis(2, 6), "1 2 3");
            Tables.load(t, "detect;");
            Check.due("without it", t.axis(0, 6) + " " + t.axis(1, 6) + " " + t.axis(2, 6), "0 0 0");
            dueFault("x 10 0 1 1 0 0;begin 11 0 0;", OUT_OF_RANGE, 21);
            dueFault("y 10 0 1 1 0 0;begin 11 11 0;", OUT_OF_RANGE, 24);
            dueFault("begin 200 200 201;", OUT_OF_RANGE, 14);
            dueFault("begin 0 0;", SYNTAX, 9);
            dueFault("begin 0 0 0 0;", SYNTAX, 12);
        });
        e.says("start N          1 to 1000; 100 without it").holds(() -> {
            for (int start : new int[] {1, 2, 999, 1000}) {
                Check.due("start " + start, Tables.loaded("start " + start + ";").count(0), start);
            }
            dueFault("start 0;", OUT_OF_RANGE, 6);
            dueFault("start 1001;", OUT_OF_RANGE, 6);
            StepperTable t = Tables.loaded("start 7;");
            Tables.load(t, "detect;");
            Check.due("without it", t.count(0), 100);
        });
        e.says("compensate       compensation is on").says("detect           detection is on").holds(() -> {
            StepperTable t = Tables.loaded("compensate;");
            Check.due("compensation alone", t.count(1) + " " + t.count(2), "1 0");
            Tables.load(t, "detect;");
            Check.due("detection alone", t.count(1) + " " + t.count(2), "0 1");
            Tables.load(t, "detect;compensate;");
            Check.due("both", t.count(1) + " " + t.count(2), "1 1");
            Tables.load(t, "");
            Check.due("none", t.count(1) + " " + t.count(2), "0 0");
        });
        e.says("Each statement may occur once; begin must stand behind the statements of axes that it follows from: no statement "
            + "of an axis may come behind it.").holds(() -> {
                String[] all = {"x 9 0 1 1 0 0;", "y 9 0 1 1 0 0;", "z 9 0 1 1 0 0;", "begin 1 2 3;", "start 7;",
                    "compensate;", "detect;"};
                for (String statement : all) {
                    dueFault(statement + statement, MISPLACED, statement.length());
                    dueFault(statement + " " + statement, MISPLACED, statement.length() + 1);
                }
                for (int axis = 0; axis < 3; axis++) {
                    dueFault("begin 1 2 3;" + all[axis], MISPLACED, 12);
                    dueFault("begin 1 2 3;start 7;detect;" + all[axis], MISPLACED, 27);
                }
                dueLoad("detect;z 9 0 1 1 0 0;y 9 0 1 1 0 0;start 7;x 9 0 1 1 0 0;begin 1 2 3;compensate;", 27);
                StepperTable t = new StepperTable();
                Tables.load(t, "detect;");
                Check.due("once in each text", Tables.load(t, "detect;"), 600);
                Tables.load(t, "begin 1 2 3;");
                Check.due("begin in an earlier text", Tables.load(t, all[0]), 409);
            });
    }

    private static void tokens(Edges e) {
        e.says("Tokens are words (maximal runs of the letters a to z), numbers (maximal runs of digits, 1 to 4 of them) and "
            + "semicolons.").holds(() -> {
                dueLoad("start7;x9 0 1 1 9 0;detect;", 409);
                dueLoad("start 0007;", 600);
                dueLoad("start 1000;", 600);
                dueFault("start 00007;", SYNTAX, 6);
                dueFault("start 10000;", SYNTAX, 6);
                dueFault("start 4294967303;", SYNTAX, 6);
                dueFault("start " + "0".repeat(580) + "7;", SYNTAX, 6);
                dueFault("detectx;", SYNTAX, 0);
                dueFault("detec;", SYNTAX, 0);
                dueFault("xx 9 0 1 1 9 0;", SYNTAX, 0);
                dueFault("compensatedetect;", SYNTAX, 0);
                dueFault("det ect;", SYNTAX, 0);
                dueFault("start 1 0;", SYNTAX, 8);
                dueFault("start 7x;", SYNTAX, 7);
                dueFault("Detect;", SYNTAX, 0);
                dueFault("`;", SYNTAX, 0);
                dueFault("{;", SYNTAX, 0);
                dueFault("detect{", SYNTAX, 6);
                dueFault("detect`", SYNTAX, 6);
                dueFault("start /;", SYNTAX, 6);
                dueFault("start :;", SYNTAX, 6);
                dueFault("start 7/", SYNTAX, 7);
                dueFault("start 7:", SYNTAX, 7);
                dueFault("start 7,", SYNTAX, 7);
                dueFault("start +7;", SYNTAX, 6);
                dueFault("start -7;", SYNTAX, 6);
            });
        e.says("Spaces (32) and line feeds (10) may stand between tokens.").holds(() -> {
            dueLoad("", 600);
            dueLoad(" ", 600);
            dueLoad("\n", 600);
            dueLoad(" \n\n  start\n\n 7 \n ; \n", 600);
            dueLoad("\nbegin\n1 2\n3\n;detect ;", 600);
            for (char other : new char[] {0, 9, 11, 12, 13, 31, 33, 127, 128, 160, 255}) {
                dueFault("start" + other + "7;", SYNTAX, 5);
                dueFault("start 7;" + other, SYNTAX, 8);
                dueFault("start 7" + other + ";", SYNTAX, 7);
                dueFault(other + "start 7;", SYNTAX, 0);
            }
        });
    }

    private static void faults(Edges e) {
        e.says("A text is parsed from left to right, and the first error met is reported, with an offset in bytes from 0;")
            .holds(() -> {
                dueFault("start 0;start 0;;", OUT_OF_RANGE, 6);
                dueFault("detect;detect;start 0;", MISPLACED, 7);
                dueFault("detect x;x 0;", SYNTAX, 7);
                dueFault("x 0 21 0 0 1 21", OUT_OF_RANGE, 2);
                dueFault("x 9 21", OUT_OF_RANGE, 4);
                dueFault("start 1001", OUT_OF_RANGE, 6);
                dueFault("begin 0 0 0;x", MISPLACED, 12);
            });
        e.says("if several errors apply to one token, the one with the smallest code:").holds(() -> {
            dueFault("start 10001;", SYNTAX, 6);
            dueFault("x 00000 0 1 1 0 0;", SYNTAX, 2);
            dueFault("detect detect;", SYNTAX, 7);
            dueFault("detect 9999;", SYNTAX, 7);
            dueFault("begin 0 0 0 x 1;", SYNTAX, 12);
            dueFault("detect;99999;", SYNTAX, 7);
        });
        e.says("- SYNTAX: a token that cannot stand at its place, a number that is too long, a byte that belongs to no token, or "
            + "the end of the text where more is required.").says("The offset is that of the first byte of the token, or the "
            + "length of the text.").holds(() -> {
                dueFault("  7;", SYNTAX, 2);
                dueFault("start start 7;", SYNTAX, 6);
                dueFault("start ;", SYNTAX, 6);
                dueFault("start 7 ,", SYNTAX, 8);
                dueFault("begin 1 22222 3;", SYNTAX, 8);
                String[] whole = {"x", " 9", " 0", " 1", " 1", " 9", " 0", ";", "begin", " 1", " 2", " 3", ";", "start", " 5",
                    ";", "compensate", ";", "detect", ";"};
                String text = "";
                for (String token : whole) {
                    text = text + token;
                    if (token.equals(";")) {
                        dueLoad(text, 409);
                        dueLoad(text + " \n", 409);
                    } else {
                        dueFault(text, SYNTAX, text.length());
                        dueFault(text + "\n ", SYNTAX, text.length() + 2);
                    }
                }
            });
        e.says("- OUT_OF_RANGE: a number out of its range, at its first byte.").holds(() -> {
            dueFault("start  1001 ;", OUT_OF_RANGE, 7);
            dueFault("start\n0000;", OUT_OF_RANGE, 6);
            dueFault("x 9 0 1 1 9 0021;", OUT_OF_RANGE, 12);
            dueFault("x 9999 0 1 1 9 0;", OUT_OF_RANGE, 2);
        });
        e.says("- MISPLACED: the first word of a statement that occurred already, or of an axis behind begin.").holds(() -> {
            dueFault("detect;  detect;", MISPLACED, 9);
            dueFault("detect;detect", MISPLACED, 7);
            dueFault("start 7;start 0;", MISPLACED, 8);
            dueFault("begin 0 0 0;y", MISPLACED, 12);
            dueFault("x 9 0 1 1 0 0;begin 0 0 0;x;", MISPLACED, 26);
        });
        e.says("An error changes nothing but the input buffer and the reported error.").holds(() -> {
            for (String text : new String[] {"x", "x 0", "x 9 0 1 1 9 0;begin 1 1 1;start 1;detect;detect", "start 5;x 9 0 1;"}) {
                StepperTable t = Tables.smallWithQueue();
                t.saveState();
                t.setDetection(true);
                t.printQueue();
                String before = Tables.snapshot(t);
                Check.due("load of " + text, Tables.load(t, text), -1);
                Check.due("snapshot behind " + text, Tables.snapshot(t), before);
                Check.due("output behind " + text, Tables.output(t), "10,5,0 20,10,0");
                Check.due("undo behind " + text, t.undo(), 3);
                Check.due("saved behind " + text, t.restoreState(), 2);
            }
        });
    }

    /** Slack, counts of all kinds, a stuck switch, a queue, a saved state, an output. */
    private static StepperTable worn() {
        StepperTable t = Tables.small();
        t.setStuck(1, 2);
        t.home(1);
        t.reset();
        t.setStuck(1, 0);
        t.jog(0, -100);
        t.homeAll();
        t.setCompensation(true);
        t.queue(10, 5, 0);
        t.queue(9, 5, 0);
        t.run(2);
        t.setStuck(1, 2);
        t.queue(1, 1, 1);
        t.saveState();
        t.printQueue();
        return t;
    }

    private static void loads(Edges e) {
        e.says("A successful load replaces everything: no axis is homed,").holds(() -> {
            StepperTable t = worn();
            Tables.load(t, Tables.SMALL);
            Check.due("as a new object that loads it", Tables.snapshot(t), Tables.snapshot(Tables.loaded(Tables.SMALL)));
            Check.due("homed axes", t.count(5), 0);
            Check.due("output", t.outputByte(0), -1);
        });
        e.says("all slacks are 0,").holds(() -> {
            StepperTable t = worn();
            Check.due("before", t.axis(1, 7), 1);
            Tables.load(t, Tables.SMALL);
            Check.due("slacks", t.axis(0, 7) + t.axis(1, 7) + t.axis(2, 7), 0);
        });
        e.says("no switch is stuck,").holds(() -> {
            StepperTable t = worn();
            Tables.load(t, "begin 9 9 9;");
            Check.due("how y is stuck", t.axis(1, 10), 0);
            Check.due("what it reads", t.readsClosed(1), false);
        });
        e.says("there is no alarm,").holds(() -> {
            StepperTable t = Tables.alarmed();
            Tables.load(t, "");
            Check.due("alarm", t.count(3), 0);
            Check.due("homing", t.homeAll(), 3 * 8);
        });
        e.says("the queue is empty,").holds(() -> {
            StepperTable t = worn();
            Tables.load(t, "");
            Check.due("moves", t.count(4), 0);
            Check.due("what they last", t.queueTime(), 0L);
            Check.dueThrow("the first one", NO_INDEX, () -> t.target(0, 0));
        });
        e.says("nothing is counted,").holds(() -> {
            StepperTable t = worn();
            for (int what = 0; what <= 5; what++) {
                Check.due("something to forget: " + what, t.account(0, what) + t.account(1, what) > 0, true);
            }
            Check.due("lost steps to forget", t.axis(0, 9) > 0, true);
            Tables.load(t, Tables.SMALL);
            for (int axis = 0; axis < 3; axis++) {
                for (int what = 0; what <= 5; what++) {
                    Check.due("account " + axis + " " + what, t.account(axis, what), 0);
                }
                Check.due("counted by " + axis, t.axis(axis, 8), 0);
                Check.due("lost by " + axis, t.axis(axis, 9), 0);
                Check.due("latest direction of " + axis, t.axis(axis, 12), 1);
            }
            Check.due("time", t.time(), 0L);
            Check.due("mean", t.meanDuration(), 0.0);
            t.homeAll();
            t.queue(1, 0, 0);
            t.queue(1, 1, 0);
            t.setStart(250);
            t.runAll();
            Check.due("the mean of the two steps since", t.meanDuration(), 4000.0);
        });
        e.says("nothing can be undone,").holds(() -> {
            StepperTable t = worn();
            Tables.load(t, Tables.SMALL);
            Check.due("changes", t.count(6), 0);
            Check.due("undo", t.undo(), -1);
            t.setStart(9);
            Check.due("one change later", t.undo(), 0);
            Check.due("what that left", t.count(0), 100);
            Check.due("nothing ahead of it", t.undo(), -1);
        });
        e.says("and no state is saved.").holds(() -> {
            StepperTable t = worn();
            Tables.load(t, Tables.SMALL);
            Check.dueThrow("restore", NO_STATE, t::restoreState);
            Check.due("saved anew", t.saveState(), 0);
            Check.due("restored", t.restoreState(), 0);
        });
        e.says("An empty text has axes of length 200.").holds(() -> {
            StepperTable t = Tables.loaded(Tables.SMALL);
            Check.due("empty", t.loadTable(), 600);
            Check.due("lengths", t.axis(0, 0) + " " + t.axis(1, 0) + " " + t.axis(2, 0), "200 200 200");
            dueLoad(" \n ", 600);
        });
    }

    // ---- changes, questions and exceptions ----

    private static void dueChange(String what, StepperTable t, Check.Call call) {
        int before = t.count(6);
        call.answer();
        Check.due(what + " is one change", t.count(6), before + 1);
    }

    private static void changes() {
        StepperTable t = Tables.loaded(Tables.SMALL);
        dueChange("home", t, () -> t.home(0));
        dueChange("homeAll", t, t::homeAll);
        dueChange("queue", t, () -> t.queue(1, 1, 1));
        dueChange("insert", t, () -> t.insert(0, 2, 2, 2));
        dueChange("swapTargets", t, () -> t.swapTargets(0, 1));
        dueChange("swapTargets with itself", t, () -> t.swapTargets(1, 1));
        dueChange("dropTarget", t, () -> t.dropTarget(0));
        dueChange("run", t, () -> t.run(1));
        StepperTable u = Tables.loaded(Tables.SMALL);
        dueChange("runAll without moves", u, u::runAll);
        dueChange("jog", u, () -> u.jog(0, 1));
        dueChange("setCompensation as it was", u, () -> u.setCompensation(false));
        dueChange("setDetection as it was", u, () -> u.setDetection(false));
        dueChange("setStuck as it was", u, () -> u.setStuck(0, 0));
        dueChange("setStart as it was", u, () -> u.setStart(100));
        dueChange("reset without an alarm", u, u::reset);
        dueChange("setStuck", u, () -> u.setStuck(0, 2));
        dueChange("home with an alarm then", u, () -> u.home(0));
        dueChange("jog with an alarm", u, () -> u.jog(0, 1));
        StepperTable v = Tables.smallWithQueue();
        dueChange("unqueue", v, v::unqueue);
        dueChange("runAll", v, v::runAll);
        v.setStuck(1, 1);
        dueChange("homeAll with an alarm then", v, v::homeAll);
        v.saveState();
        v.printQueue();
        Tables.load(v, "x");
        Check.due("no changes: saving, printing and a text with an error", v.count(6), 7);
    }

    private static void latestTen() {
        StepperTable t = new StepperTable();
        for (int start = 1; start <= 25; start++) {
            t.setStart(start);
            Check.due("changes behind " + start, t.count(6), Math.min(start, 10));
        }
        for (int left = 9; left >= 7; left--) {
            Check.due("undo", t.undo(), left);
        }
        Check.due("start", t.count(0), 22);
        for (int start = 101; start <= 104; start++) {
            t.setStart(start);
        }
        int[] due = {103, 102, 101, 22, 21, 20, 19, 18, 17, 16};
        for (int i = 0; i < due.length; i++) {
            Check.due("undo " + i, t.undo(), 9 - i);
            Check.due("start behind undo " + i, t.count(0), due[i]);
        }
        Check.due("an eleventh one", t.undo(), -1);
        Check.due("changes nothing", t.count(0), 16);
    }

    private static void undoneAccounts() {
        StepperTable t = Tables.small();
        t.queue(10, 5, 0);
        t.run(1);
        t.queue(9, 4, 0);
        String before = Tables.snapshot(t);
        t.runAll();
        Check.due("it ran", Tables.snapshot(t).equals(before), false);
        t.undo();
        Check.due("undone", Tables.snapshot(t), before);
        t.unqueue();
        String still = Tables.snapshot(t);
        t.jog(0, -100);
        t.undo();
        Check.due("jogging undone", Tables.snapshot(t), still);
        t.setStuck(2, 1);
        String stuck = Tables.snapshot(t);
        t.homeAll();
        Check.due("alarm", t.count(3), 1);
        t.undo();
        Check.due("homing undone", Tables.snapshot(t), stuck);
    }

    private static void askAll(StepperTable t) {
        t.errorCode();
        t.errorOffset();
        t.straightPairs();
        t.nearest(3, 3, 3);
        t.nearestOrder(1);
        t.queueLength();
        t.queueTime();
        t.straightTime(5, 5, 5);
        t.wouldLose();
        t.bestFirst();
        t.bestStart();
        for (int axis = 0; axis < 3; axis++) {
            t.bound(axis, true);
            t.whereAt(axis, 100000);
            t.trueBehind(axis);
            t.travel(axis);
            t.turnsAhead(axis);
            t.wouldErr(axis);
            t.wouldHome(axis);
            t.slackLeft(axis, false);
            t.lostShare(axis);
        }
        for (int move = 0; move < t.count(4); move++) {
            t.move(move, 5);
            t.speed(move, 0);
            t.stepsBehind(move, 0, 1);
            t.deviation(move);
            t.pointAt(move, 0, 1);
            t.rampSteps(move, true);
            t.slowest(move);
            t.lastsUntil(move);
            t.lineLength(move);
            t.meanSpeed(move);
        }
    }

    private static void throwing() {
        StepperTable t = Tables.smallWithQueue();
        String before = Tables.snapshot(t);
        Check.Call[] calls = {() -> t.count(7), () -> t.axis(3, 0), () -> t.axis(0, 13), () -> t.home(0), t::homeAll,
            () -> t.home(3), () -> t.jog(0, 1), () -> t.jog(0, 101), () -> t.jog(3, 1), () -> t.queue(20, 10, 0),
            () -> t.queue(101, 0, 0), () -> t.run(0), () -> t.run(3), () -> t.setStuck(0, 3), () -> t.setStuck(3, 0),
            () -> t.setStart(0), () -> t.setStart(1001), () -> t.insert(1, 10, 5, 0), () -> t.insert(3, 1, 1, 1),
            () -> t.insert(0, 0, 51, 0), () -> t.dropTarget(2), () -> t.swapTargets(0, 2), () -> t.swapTargets(2, 0),
            () -> t.nearestOrder(2), () -> t.whereAt(0, -1), () -> t.straightTime(0, 0, 21), t::restoreState};
        for (int i = 0; i < calls.length; i++) {
            Check.due("call " + i + " throws", Check.thrown(calls[i]).equals("nothing"), false);
        }
        Check.due("nothing changed", Tables.snapshot(t), before);
        t.undo();
        Check.due("the latest change is still the second target", t.count(4), 1);
        StepperTable back = Tables.small();
        back.queue(5, 0, 0);
        back.queue(0, 0, 0);
        back.queue(5, 0, 0);
        before = Tables.snapshot(back);
        Check.dueThrow("dropping", NO_STATE, () -> back.dropTarget(0));
        Check.dueThrow("dropping between two that are the same", NO_STATE, () -> back.dropTarget(1));
        Check.dueThrow("swapping", NO_STATE, () -> back.swapTargets(0, 1));
        Check.due("nothing changed by these", Tables.snapshot(back), before);
        StepperTable empty = new StepperTable();
        before = Tables.snapshot(empty);
        Check.dueThrow("unqueue", NO_ELEMENT, empty::unqueue);
        Check.dueThrow("bestStart", NO_ELEMENT, empty::bestStart);
        Check.dueThrow("queue", NO_STATE, () -> empty.queue(1, 1, 1));
        Check.dueThrow("run", NO_ELEMENT, () -> empty.run(1));
        Check.due("nothing changed in an empty one", Tables.snapshot(empty), before);
    }

    private static void firstListed() {
        StepperTable t = Tables.smallWithQueue();
        StepperTable fresh = new StepperTable();
        StepperTable alarmed = Tables.alarmed();
        Check.dueThrow("axis", NO_INDEX, () -> t.axis(3, 13));
        Check.dueThrow("coordinate", NO_INDEX, () -> fresh.coordinate(3));
        Check.dueThrow("error", NO_INDEX, () -> fresh.error(-1));
        Check.dueThrow("home with a queue", NO_INDEX, () -> t.home(3));
        Check.dueThrow("home with an alarm", NO_INDEX, () -> alarmed.home(3));
        Check.dueThrow("jog", NO_INDEX, () -> t.jog(3, 0));
        Check.dueThrow("jog with a queue", NO_ARGUMENT, () -> t.jog(0, 0));
        Check.dueThrow("queue, not homed", NO_ARGUMENT, () -> fresh.queue(0, 0, 201));
        Check.dueThrow("queue with an alarm", NO_ARGUMENT, () -> alarmed.queue(101, 0, 0));
        Check.dueThrow("run of none", NO_ARGUMENT, () -> fresh.run(17));
        Check.dueThrow("setStuck", NO_INDEX, () -> t.setStuck(3, 3));
        Check.dueThrow("move", NO_INDEX, () -> t.move(2, 8));
        Check.dueThrow("speed", NO_INDEX, () -> t.speed(2, -1));
        Check.dueThrow("stepsBehind", NO_INDEX, () -> t.stepsBehind(2, 0, -1));
        Check.dueThrow("stepsBehind of no axis", NO_INDEX, () -> t.stepsBehind(0, 3, -1));
        Check.dueThrow("insert, not homed", NO_ARGUMENT, () -> fresh.insert(1, 0, 0, 0));
        Check.dueThrow("insert with an alarm", NO_ARGUMENT, () -> alarmed.insert(0, 0, 0, 21));
        Check.dueThrow("insert of the same", NO_ARGUMENT, () -> t.insert(3, 20, 10, 0));
        Check.dueThrow("swapTargets", NO_INDEX, () -> t.swapTargets(0, 2));
        Check.dueThrow("pointAt", NO_INDEX, () -> t.pointAt(2, 0, 11));
        Check.dueThrow("bound", NO_INDEX, () -> fresh.bound(3, true));
        Check.dueThrow("whereAt", NO_INDEX, () -> fresh.whereAt(3, -1));
        Check.dueThrow("whereAt, not homed", NO_ARGUMENT, () -> fresh.whereAt(0, -1));
        Check.dueThrow("straightTime", NO_ARGUMENT, () -> fresh.straightTime(-1, 0, 0));
        Check.dueThrow("wouldErr", NO_INDEX, () -> fresh.wouldErr(3));
        Check.dueThrow("account", NO_INDEX, () -> t.account(3, 6));
    }

    private static void callsOfAllKinds(Edges e) {
        e.says("Changes are the methods whose description says so.").holds(TermsEdgesTest::changes);
        e.says("The latest 10 changes can be undone;").holds(TermsEdgesTest::latestTen);
        e.says("time, accounts and means are undone, too.").holds(TermsEdgesTest::undoneAccounts);
        e.says("Questions change nothing; what is asked about the future is worked out on a copy.").holds(() -> {
            StepperTable t = Tables.losing();
            t.setDetection(true);
            t.setCompensation(true);
            t.queue(0, 50, 20);
            t.queue(7, 7, 7);
            String before = Tables.snapshot(t);
            askAll(t);
            Check.due("snapshot behind all questions", Tables.snapshot(t), before);
            Check.due("it runs as if nothing had been asked", t.runAll(), 0);
            Check.due("and stops at its first lost step", Tables.place(t, 0), "100 3 1");
        });
        e.says("If several exceptions apply to a call, the one that is listed first is thrown.")
            .holds(TermsEdgesTest::firstListed);
        e.says("A method that throws changes nothing.").holds(TermsEdgesTest::throwing);
    }

    private static void constants(Edges e) {
        e.says("The constants: `NO_ERROR = 0`: No error.").holds(() -> Check.due("value", StepperTable.NO_ERROR, 0));
        e.says("Error code: the text does not follow the form.").holds(() -> Check.due("value", SYNTAX, 1));
        e.says("Error code: a number is out of range.").holds(() -> Check.due("value", OUT_OF_RANGE, 2));
        e.says("Error code: a statement that cannot stand there.").holds(() -> Check.due("value", MISPLACED, 3));
    }

    /** As much work as calls can ask for: 29 times 16 moves of 2000 steps, each of which lasts a second. */
    private static void manyCalls() {
        StepperTable t = Tables.homed("x 2000 0 1 1 0 0; start 1;");
        for (int round = 0; round < 29; round++) {
            for (int n = 1; n <= 16; n++) {
                Check.due("queue", t.queue(n % 2 == 1 ? 2000 : 0, 0, 0), n);
            }
            Check.due("run", t.runAll(), 16);
        }
        Check.due("time", t.time(), 29L * 16 * 2000 * 1000000 + 17 * 4000000L);
        Check.due("forward", t.account(0, 0), 29 * 8 * 2000 + 1);
        Check.due("backward", t.account(0, 1), 29 * 8 * 2000);
        Check.due("mean", t.meanDuration(), 1000000.0);
        Check.due("lost", t.lostShare(0), 1.0f / 928001.0f);
    }

    /** The call after 511 ones, all of which are changes. */
    private static void lastCall() {
        StepperTable t = new StepperTable();
        for (int call = 1; call <= 501; call++) {
            t.setStart(call);
        }
        for (int left = 9; left >= 0; left--) {
            Check.due("undo", t.undo(), left);
        }
        Check.due("the 512th call", t.count(0), 491);
    }

    public static void main(String[] args) throws IOException {
        Edges e = new Edges();
        e.section("What it is");
        e.says("An object is used for at most 512 calls after it has been made;").holds(() -> {
            manyCalls();
            lastCall();
        });
        e.section("Terms");
        axes(e);
        switches(e);
        homing(e);
        queueTerms(e);
        speeds(e);
        making(e);
        detection(e);
        statements(e);
        tokens(e);
        faults(e);
        loads(e);
        callsOfAllKinds(e);
        constants(e);
        e.end("Terms", PLAIN);
        Check.end("TermsEdgesTest");
    }
}
