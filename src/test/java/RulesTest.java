import java.io.IOException;
import java.lang.reflect.Constructor;
import java.lang.reflect.Field;
import java.lang.reflect.Method;
import java.lang.reflect.Modifier;
import java.nio.file.Files;
import java.nio.file.Path;
import java.util.ArrayList;
import java.util.Arrays;
import java.util.List;
import java.util.Set;
import java.util.TreeSet;
import java.util.regex.Matcher;
import java.util.regex.Pattern;
import java.util.stream.Collectors;

/** The face as the document writes it, and those rules of LANGUAGE.md that the source's text shows. */
public final class RulesTest {
    private static final String INDEX = " throws IndexOutOfBoundsException";
    private static final String ARGUMENT = " throws IllegalArgumentException";
    private static final String STATE = " throws IllegalStateException";
    private static final String ELEMENT = " throws NoSuchElementException";
    private static final String[] FACE = {
        "int appendInput(int,int,int,int,int)", "boolean truncateInput(int)", "int loadTable()", "int errorCode()",
        "int errorOffset()", "int count(int)" + ARGUMENT, "int axis(int,int)" + INDEX + ",IllegalArgumentException",
        "int coordinate(int)" + INDEX + ",IllegalStateException", "int error(int)" + INDEX + ",IllegalStateException",
        "boolean readsClosed(int)" + INDEX, "long time()", "int home(int)" + INDEX + ",IllegalStateException",
        "int jog(int,int)" + INDEX + ",IllegalArgumentException,IllegalStateException",
        "int queue(int,int,int)" + ARGUMENT + ",IllegalStateException", "int unqueue()" + ELEMENT,
        "int run(int)" + ARGUMENT + ",NoSuchElementException", "int reset()", "boolean setCompensation(boolean)",
        "boolean setDetection(boolean)", "int setStuck(int,int)" + INDEX + ",IllegalArgumentException",
        "int setStart(int)" + ARGUMENT, "int target(int,int)" + INDEX,
        "int move(int,int)" + INDEX + ",IllegalArgumentException", "int speed(int,int)" + INDEX + ",NoSuchElementException",
        "int stepsBehind(int,int,int)" + INDEX + ",IllegalArgumentException", "float deviation(int)" + INDEX,
        "int homeAll()" + STATE, "int runAll()", "int insert(int,int,int,int)" + ARGUMENT + ",IllegalStateException",
        "int dropTarget(int)" + INDEX + ",IllegalStateException",
        "int swapTargets(int,int)" + INDEX + ",IllegalStateException",
        "int pointAt(int,int,int)" + INDEX + ",IllegalArgumentException", "int rampSteps(int,boolean)" + INDEX,
        "int slowest(int)" + INDEX, "int straightPairs()", "int bound(int,boolean)" + INDEX + ",IllegalStateException",
        "int nearest(int,int,int)", "int nearestOrder(int)" + ELEMENT, "long lastsUntil(int)" + INDEX,
        "int whereAt(int,int)" + INDEX + ",IllegalArgumentException,IllegalStateException", "int trueBehind(int)" + INDEX,
        "double lineLength(int)" + INDEX, "double queueLength()", "double meanSpeed(int)" + INDEX,
        "int travel(int)" + INDEX, "int turnsAhead(int)" + INDEX, "long queueTime()",
        "long straightTime(int,int,int)" + ARGUMENT + ",IllegalStateException", "int wouldLose()",
        "int wouldErr(int)" + INDEX + ",IllegalStateException", "int wouldHome(int)" + INDEX, "int bestFirst()",
        "int bestStart()" + ELEMENT, "int slackLeft(int,boolean)" + INDEX,
        "int account(int,int)" + INDEX + ",IllegalArgumentException", "double meanDuration()",
        "float lostShare(int)" + INDEX, "int printQueue()", "int outputByte(int)", "int undo()", "int saveState()",
        "int restoreState()" + STATE};
    private static final String[] NOT_IN_THE_LANGUAGE = {"->", "::", "catch", "finally", "synchronized", "assert", "instanceof",
        "Exact", "Object", "Exception e", "System.out", "new String", "Thread", "volatile", "transient", "native ", "var ",
        "static {", "Collections", "Map", "Set<", "HashSet", "Math.sqrt", "Math.floor(", "package "};

    private RulesTest() {
    }

    private static String names(Class<?>[] classes) {
        return Arrays.stream(classes).map(Class::getSimpleName).collect(Collectors.joining(","));
    }

    private static void face() throws ReflectiveOperationException {
        Set<String> publicNames = new TreeSet<>();
        Set<String> privateNames = new TreeSet<>();
        Set<String> found = new TreeSet<>();
        for (Method method : StepperTable.class.getDeclaredMethods()) {
            boolean isPublic = Modifier.isPublic(method.getModifiers());
            (isPublic ? publicNames : privateNames).add(method.getName());
            Check.due("visibility of " + method, isPublic || Modifier.isPrivate(method.getModifiers()), true);
            if (isPublic) {
                String thrown = names(method.getExceptionTypes());
                found.add(method.getReturnType().getSimpleName() + " " + method.getName() + "("
                    + names(method.getParameterTypes()) + ")" + (thrown.isEmpty() ? "" : " throws " + thrown));
            }
        }
        Check.due("face", found, new TreeSet<>(Arrays.asList(FACE)));
        Check.due("methods", FACE.length, 62);
        for (Class<?> inside : StepperTable.class.getDeclaredClasses()) {
            for (Method method : inside.getDeclaredMethods()) {
                privateNames.add(method.getName());
            }
        }
        privateNames.retainAll(publicNames);
        Check.due("private methods with public names", privateNames.toString(), "[]");
        String[] constants = {"NO_ERROR", "SYNTAX", "OUT_OF_RANGE", "MISPLACED"};
        for (int i = 0; i < constants.length; i++) {
            Check.due(constants[i], StepperTable.class.getField(constants[i]).get(null), i);
        }
        Check.due("public fields", StepperTable.class.getFields().length, constants.length);
        for (Field field : StepperTable.class.getDeclaredFields()) {
            Check.due("visibility of " + field, Modifier.isPublic(field.getModifiers()) || Modifier.isPrivate(field.getModifiers()),
                true);
        }
        Constructor<?>[] constructors = StepperTable.class.getDeclaredConstructors();
        Check.due("constructors", constructors.length, 1);
        Check.due("its modifiers", constructors[0].getModifiers(), Modifier.PUBLIC);
        Check.due("class", StepperTable.class.getModifiers(), Modifier.PUBLIC | Modifier.FINAL);
    }

    private static String withoutTexts(String source) {
        return source.replaceAll("(?s)/\\*.*?\\*/", "").replaceAll("//[^\n]*", "").replaceAll("\"[^\"\n]*\"", "\"\"");
    }

    private static void source(String text) {
        Check.due("signs 1 to 127", text.chars().allMatch(c -> c > 0 && c < 128), true);
        String code = withoutTexts(text);
        for (String part : NOT_IN_THE_LANGUAGE) {
            Check.due("the source has \"" + part + "\"", code.contains(part), false);
        }
        Matcher imports = Pattern.compile("import [^;]*;").matcher(code);
        List<String> imported = new ArrayList<>();
        while (imports.find()) {
            imported.add(imports.group());
        }
        Check.due("imports", imported.toString(), "[import java.util.NoSuchElementException;]");
        Check.due("a text is joined by +", Pattern.compile("\"\"\\s*\\+|\\+\\s*\"\"").matcher(code).find(), false);
        Check.due("classes inside", code.split("static final class ").length - 1 <= 11, true);
    }

    /** Lines of a method from its head to its brace, at the indents 4 and 8. */
    private static void lengths(List<String> lines) {
        for (int from = 0; from < lines.size(); from++) {
            Matcher head = Pattern.compile("( {4}| {8})\\S.*\\).*\\{").matcher(lines.get(from));
            if (head.matches() && !lines.get(from).contains(" class ")) {
                int end = from;
                while (!lines.get(end).equals(head.group(1) + "}")) {
                    end++;
                }
                Check.due("at most 60 lines: " + lines.get(from), end - from < 60, true);
                Check.due("at most 7 parameters: " + lines.get(from), lines.get(from).split(",").length <= 7, true);
            }
        }
    }

    private static void fields() {
        List<Class<?>> classes = new ArrayList<>(Arrays.asList(StepperTable.class.getDeclaredClasses()));
        classes.add(StepperTable.class);
        for (Class<?> inside : classes) {
            int fields = 0;
            for (Field field : inside.getDeclaredFields()) {
                boolean isStatic = Modifier.isStatic(field.getModifiers());
                fields += isStatic ? 0 : 1;
                Check.due("static and not final: " + field, isStatic && !Modifier.isFinal(field.getModifiers()), false);
            }
            Check.due("at most 20 fields: " + inside, fields <= 20, true);
        }
    }

    public static void main(String[] args) throws IOException, ReflectiveOperationException {
        face();
        fields();
        Path file = Path.of(args.length > 0 ? args[0] : "src/main/java/StepperTable.java");
        source(Files.readString(file));
        lengths(Files.readAllLines(file));
        Check.end("RulesTest");
    }
}
