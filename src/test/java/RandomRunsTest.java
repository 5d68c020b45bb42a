import java.lang.reflect.InvocationTargetException;
import java.lang.reflect.Method;
import java.lang.reflect.Modifier;
import java.util.ArrayList;
import java.util.Arrays;
import java.util.Comparator;
import java.util.List;
import java.util.Random;

/** Long runs of calls, the same ones every time, on the program and on the model: all answers must agree. */
public final class RandomRunsTest {
    private static final int RUNS = 1500;
    private static final int CALLS = 500;
    private static final int[] ODD = {Integer.MIN_VALUE, Integer.MIN_VALUE + 1, -1, 3, 16, 17, 1001, Integer.MAX_VALUE - 1,
        Integer.MAX_VALUE};
    private static final String[] JUNK = {"x", "y", "z", "begin", "start", "compensate", "detect", ";", " ", "\n", "0", "1",
        "20", "21", "2000", "2001", "00007", "0007", "begins", "X", "#", "-", "\u0000", "\u00e9"};

    private final Random random;
    private StepperTable table = new StepperTable();
    private Model model = new Model();
    private final List<Method> methods = new ArrayList<>();
    private final List<String> told = new ArrayList<>();
    private boolean filling;

    private RandomRunsTest(int seed) {
        random = new Random(seed);
        for (Method method : StepperTable.class.getDeclaredMethods()) {
            if (Modifier.isPublic(method.getModifiers())) {
                methods.add(method);
            }
        }
        methods.sort(Comparator.comparing(Method::getName));
    }

    private int below(int bound) {
        return random.nextInt(bound);
    }

    private int among(int... choices) {
        return choices[below(choices.length)];
    }

    // ---- arguments ----

    private int axisNumber() {
        return below(40) == 0 ? ODD[below(ODD.length)] : below(3);
    }

    private int moveNumber() {
        int moves = model.count(4);
        return below(40) == 0 ? ODD[below(ODD.length)] : below(10) == 0 || moves == 0 ? below(18) - 1 : below(moves);
    }

    private int coordinateOf(int axis) {
        int length = model.axis(axis, 0);
        return below(60) == 0 ? ODD[below(ODD.length)] : below(60) == 0 ? length + among(0, 1)
            : below(3) == 0 ? below(Math.min(length, 4) + 1) : below(2) == 0 ? below(Math.min(length, 30) + 1)
            : below(length + 1);
    }

    private int lineCoordinate(int axis, int unit) {
        return Math.min(model.axis(axis, 0), unit * (axis + 1));
    }

    private Object[] point() {
        if (below(4) == 0) {
            int moves = model.count(4);
            int from = below(moves + 1) - 1;
            return from < 0 ? new Object[] {model.count(5) < 3 ? 0 : model.coordinate(0), 0, 0}
                : new Object[] {model.target(from, 0), model.target(from, 1), model.target(from, 2)};
        }
        if (filling || below(3) == 0) {
            int unit = below(20);
            return new Object[] {lineCoordinate(0, unit), lineCoordinate(1, unit), lineCoordinate(2, unit)};
        }
        return new Object[] {coordinateOf(0), coordinateOf(1), coordinateOf(2)};
    }

    private Object[] point(int first) {
        Object[] point = point();
        return new Object[] {first, point[0], point[1], point[2]};
    }

    private int oddOr(int usual) {
        return below(30) == 0 ? ODD[below(ODD.length)] : usual;
    }

    private int stepOf(int move) {
        int lead = move >= 0 && move < model.count(4) ? model.move(move, 0) : 10;
        return oddOr(below(lead + 3) - 1);
    }

    private Object[] arguments(String name) {
        int move = moveNumber();
        switch (name) {
            case "count":
                return new Object[] {oddOr(below(9) - 1)};
            case "axis":
                return new Object[] {axisNumber(), oddOr(below(15) - 1)};
            case "account":
                return new Object[] {axisNumber(), oddOr(below(8) - 1)};
            case "move":
                return new Object[] {move, oddOr(below(10) - 1)};
            case "coordinate", "error", "readsClosed", "home", "trueBehind", "travel", "turnsAhead", "wouldErr", "wouldHome",
                    "lostShare":
                return new Object[] {axisNumber()};
            case "jog":
                return new Object[] {axisNumber(), below(3) == 0 ? among(-101, -100, 0, 100, 101) : oddOr(below(31) - 15)};
            case "queue", "straightTime":
                return point();
            case "insert":
                return point(below(3) == 0 ? model.count(4) : move);
            case "nearest":
                return new Object[] {oddOr(below(60)), oddOr(below(60)), oddOr(below(60))};
            case "run":
                return new Object[] {oddOr(below(3) == 0 ? below(18) : 1 + below(3))};
            case "setCompensation", "setDetection":
                return new Object[] {below(2) == 0};
            case "setStuck":
                return new Object[] {axisNumber(), below(3) == 0 ? below(5) - 1 : 0};
            case "setStart":
                return new Object[] {below(3) == 0 ? among(0, 1, 50, 1000, 1001) : 1 + below(1000)};
            case "target":
                return new Object[] {move, axisNumber()};
            case "speed":
                return new Object[] {move, stepOf(move)};
            case "stepsBehind", "pointAt":
                return new Object[] {move, axisNumber(), stepOf(move)};
            case "rampSteps":
                return new Object[] {move, below(2) == 0};
            case "bound", "slackLeft":
                return new Object[] {axisNumber(), below(2) == 0};
            case "swapTargets":
                return new Object[] {move, moveNumber()};
            case "deviation", "dropTarget", "slowest", "lastsUntil", "lineLength", "meanSpeed", "nearestOrder":
                return new Object[] {move};
            case "whereAt":
                int whole = (int) Math.min(model.queueTime(), 2000000000L);
                return new Object[] {axisNumber(), oddOr(below(whole + 2))};
            case "outputByte":
                return new Object[] {oddOr(below(60) - 1)};
            case "truncateInput":
                return new Object[] {oddOr(below(620) - 5)};
            case "appendInput":
                return new Object[] {random.nextInt(), 0x78203230, 0x3b2078, random.nextInt(), oddOr(0)};
            default:
                return new Object[0];
        }
    }

    // ---- setup texts ----

    private String axisText(char name) {
        int length = below(5) == 0 ? 1 + below(2000) : below(5) == 0 ? 1 + below(60) : 20 + below(60);
        return name + " " + length + " " + among(0, 1, 3, 20, below(21)) + " " + among(5000, 1000, 1 + below(5000)) + " "
            + among(1, 100, 500, 1 + below(500)) + " " + below(Math.min(length, 8) + 1) + " " + below(5) + ";";
    }

    private String setupText() {
        StringBuilder text = new StringBuilder();
        int[] lengths = {200, 200, 200};
        for (int axis = 0; axis < 3; axis++) {
            if (below(4) > 0) {
                String line = axisText("xyz".charAt(axis));
                lengths[axis] = Integer.parseInt(line.split(" ")[1]);
                text.append(line).append(below(2) == 0 ? "\n" : "");
            }
        }
        if (below(2) == 0) {
            text.append("begin ").append(below(lengths[0] + 1)).append(' ').append(below(lengths[1] + 1)).append(' ')
                .append(lengths[2]).append(';');
        }
        text.append(below(2) == 0 ? "start " + (1 + below(1000)) + ";" : "");
        text.append(below(3) == 0 ? "compensate;" : "").append(below(3) == 0 ? "detect ;" : "");
        return text.toString();
    }

    private String spoiled(String text) {
        String spoiled = text;
        if (below(5) == 0) {
            return spoiled + setupText();
        }
        for (int n = below(3); n >= 0 && !spoiled.isEmpty(); n--) {
            int from = below(spoiled.length());
            int end = Math.min(spoiled.length(), from + below(3));
            String put = below(3) == 0 ? "" : JUNK[below(JUNK.length)];
            spoiled = spoiled.substring(0, from) + put + spoiled.substring(end);
        }
        return below(6) == 0 ? spoiled.substring(0, below(spoiled.length() + 1)) : spoiled;
    }

    private void load(boolean spoil) {
        compare(named("truncateInput"), 0);
        String text = spoil ? spoiled(setupText()) : setupText();
        told.add(text);
        for (int at = 0; at < text.length(); at += 20) {
            Object[] words = new Object[5];
            for (int w = 0; w < 5; w++) {
                int word = 0;
                for (int i = at + 4 * w; i < at + 4 * w + 4; i++) {
                    word = word << 8 | (i < text.length() ? text.charAt(i) : 32);
                }
                words[w] = word;
            }
            compare(named("appendInput"), words);
        }
        compare(named("truncateInput"), text.length());
        compare(named("loadTable"));
    }

    // ---- calls ----

    private Method named(String name) {
        return methods.stream().filter(m -> m.getName().equals(name)).findFirst().orElseThrow();
    }

    private static Object answer(Object on, Method method, Object[] arguments) {
        try {
            Method own = on.getClass().getDeclaredMethod(method.getName(), method.getParameterTypes());
            return own.invoke(on, arguments);
        } catch (InvocationTargetException e) {
            return e.getCause().getClass().getName();
        } catch (ReflectiveOperationException e) {
            throw new IllegalStateException(e);
        }
    }

    private void compare(Method method, Object... arguments) {
        String call = method.getName() + Arrays.toString(arguments);
        Object want = answer(model, method, arguments);
        Object got = answer(table, method, arguments);
        told.add(call + " = " + want);
        if (!want.equals(got)) {
            told.forEach(System.out::println);
            System.out.println(call + " answered " + got + ", due is " + want);
            System.exit(1);
        }
    }

    private void frequentChange() {
        String[] often = {"homeAll", "queue", "queue", "queue", "insert", "run", "runAll", "undo", "reset", "swapTargets"};
        Method method = named(model.count(3) != 0 ? "reset" : model.count(5) < 3 && below(3) > 0 ? "homeAll"
            : filling && below(3) > 0 ? "insert" : often[below(often.length)]);
        compare(method, arguments(method.getName()));
    }

    private void run() {
        for (int call = 0; call < CALLS; call++) {
            int kind = below(300);
            filling = call / 60 % 2 == 1;
            if (kind < 2 || call == 0) {
                load(kind == 0 && call > 0);
            } else if (kind < 110) {
                frequentChange();
            } else {
                Method method = methods.get(below(methods.size()));
                boolean rare = method.getName().equals("loadTable") && below(20) > 0
                    || method.getName().equals("setStuck") && below(2) > 0 || method.getName().equals("jog") && below(2) > 0;
                if (!rare) {
                    compare(method, arguments(method.getName()));
                }
            }
        }
    }

    private void texts() {
        for (int n = 0; n < 40; n++) {
            load(true);
            compare(named("errorCode"));
            compare(named("errorOffset"));
        }
    }

    public static void main(String[] args) {
        int first = args.length > 1 ? Integer.parseInt(args[1]) : 1;
        int runs = args.length > 2 ? Integer.parseInt(args[2]) : RUNS;
        for (int seed = first; seed < first + runs; seed++) {
            RandomRunsTest test = new RandomRunsTest(seed);
            if (seed % 4 == 0) {
                test.texts();
            } else {
                test.run();
            }
        }
        System.out.println("RandomRunsTest: " + runs + " runs agree with the model");
    }
}
