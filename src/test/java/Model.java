import java.util.ArrayList;
import java.util.HashSet;
import java.util.LinkedList;
import java.util.List;
import java.util.NoSuchElementException;
import java.util.Set;

/**
 * The document told a second time, as plainly and wastefully as can be: a run is first written down
 * as a list of events, and every answer is read from such lists. RandomRunsTest compares the program with it.
 */
public final class Model {
    private enum Kind { BEGIN, COMPENSATE, STEP, TURN, END }

    /** At BEGIN and END: the move. At STEP: what it lasts. At COMPENSATE: axis, way and what it lasts. */
    private record Event(Kind kind, int move, int axis, int way, long lasts) {
    }

    private static final class AxisState implements Cloneable {
        int[] built = {200, 0, 1000, 100, 5, 2};
        int at;
        int slack;
        int counted;
        int lost;
        int stuck;
        int latest = 1;
        boolean closed;
        boolean homed;
        int coordinate;
        int zero;
        int[] account = new int[6];

        AxisState copy() {
            try {
                AxisState made = (AxisState) clone();
                made.account = account.clone();
                return made;
            } catch (CloneNotSupportedException e) {
                throw new IllegalStateException(e);
            }
        }

        boolean step(int way) {
            boolean kept = true;
            counted += way;
            latest = way;
            account[way == 1 ? 0 : 1]++;
            if (way == 1 && slack < built[1] || way == -1 && slack > 0) {
                slack += way;
            } else if (way == 1 && at < built[0] || way == -1 && at > 0) {
                at += way;
            } else {
                lost++;
                kept = false;
            }
            if (at <= built[4]) {
                closed = true;
            }
            if (at > built[4] + built[5]) {
                closed = false;
            }
            return kept;
        }

        boolean reads() {
            return stuck == 2 || stuck == 0 && closed;
        }
    }

    private static final class State {
        AxisState[] axes = {new AxisState(), new AxisState(), new AxisState()};
        List<int[]> queue = new ArrayList<>();
        int start = 100;
        boolean compensation;
        boolean detection;
        int alarm;
        long time;
        long durations;
        long steps;

        State copy() {
            State made = new State();
            for (int a = 0; a < 3; a++) {
                made.axes[a] = axes[a].copy();
            }
            made.queue = new ArrayList<>(queue);
            made.start = start;
            made.compensation = compensation;
            made.detection = detection;
            made.alarm = alarm;
            made.time = time;
            made.durations = durations;
            made.steps = steps;
            return made;
        }

        int[] here() {
            return new int[] {axes[0].coordinate, axes[1].coordinate, axes[2].coordinate};
        }

        boolean allHomed() {
            return axes[0].homed && axes[1].homed && axes[2].homed;
        }

        void unhome() {
            for (AxisState axis : axes) {
                axis.homed = false;
            }
        }

        int home(int a) {
            AxisState axis = axes[a];
            int most = axis.built[0] + axis.built[1] + 1;
            int made = 0;
            for (int part = 1; part <= 2; part++) {
                boolean wanted = part == 1;
                for (int n = 0; n < most && axis.reads() != wanted; n++) {
                    axis.step(part == 1 ? -1 : 1);
                    time += part == 1 ? 1000000 / start : 4 * (1000000 / start);
                    made++;
                }
                if (axis.reads() != wanted) {
                    alarm = part;
                    axis.homed = false;
                    axis.account[4]++;
                    return -1;
                }
            }
            axis.homed = true;
            axis.coordinate = 0;
            axis.zero = axis.at;
            axis.account[3]++;
            return made;
        }

        int run(int moves) {
            List<Event> events = new Motion(this, queue, start).events();
            int ended = 0;
            for (Event event : events) {
                if (event.kind == Kind.BEGIN) {
                    if (event.move == moves) {
                        break;
                    }
                    int[] from = event.move == 0 ? here() : queue.get(event.move - 1);
                    for (int a = 0; a < 3; a++) {
                        int d = queue.get(event.move)[a] - from[a];
                        if (d * axes[a].latest < 0) {
                            axes[a].account[5]++;
                        }
                    }
                } else if (event.kind == Kind.STEP) {
                    time += event.lasts;
                    durations += event.lasts;
                    steps++;
                } else if (event.kind == Kind.END) {
                    ended++;
                } else {
                    time += event.lasts;
                    if (event.kind == Kind.COMPENSATE) {
                        axes[event.axis].account[2]++;
                    }
                    if (!axes[event.axis].step(event.way) && detection) {
                        alarm = 3;
                        queue.clear();
                        unhome();
                        return ended;
                    }
                }
            }
            for (int m = 0; m < ended; m++) {
                int[] target = queue.remove(0);
                for (int a = 0; a < 3; a++) {
                    axes[a].coordinate = target[a];
                }
            }
            return ended;
        }
    }

    /** The moves from where a state's axes are along some targets. */
    private static final class Motion {
        final State state;
        final List<int[]> points = new ArrayList<>();
        final int start;
        final int size;
        final int[] speeds;

        Motion(State state, List<int[]> targets, int start) {
            this.state = state;
            this.start = start;
            points.add(state.here());
            points.addAll(targets);
            size = targets.size();
            speeds = new int[size + 1];
            for (int m = 0; m <= size && size > 0; m++) {
                int before = m == 0 ? Integer.MAX_VALUE : cruise(m - 1);
                int behind = m == size ? Integer.MAX_VALUE : cruise(m);
                speeds[m] = Math.min(before, behind);
                if (m == 0 || !straight(m - 1)) {
                    speeds[m] = Math.min(speeds[m], start);
                }
            }
            for (int m = size - 1; m >= 0; m--) {
                speeds[m] = Math.min(speeds[m], speeds[m + 1] + gain(m) * lead(m));
            }
            for (int m = 0; m < size; m++) {
                speeds[m + 1] = Math.min(speeds[m + 1], speeds[m] + gain(m) * lead(m));
            }
        }

        int d(int m, int a) {
            return points.get(m + 1)[a] - points.get(m)[a];
        }

        int lead(int m) {
            int lead = 0;
            for (int a = 0; a < 3; a++) {
                lead = Math.max(lead, Math.abs(d(m, a)));
            }
            return lead;
        }

        boolean nowhere() {
            for (int m = 0; m < size; m++) {
                if (lead(m) == 0) {
                    return true;
                }
            }
            return false;
        }

        private int limit(int m, int what) {
            int limit = Integer.MAX_VALUE;
            for (int a = 0; a < 3; a++) {
                if (d(m, a) != 0) {
                    limit = Math.min(limit, state.axes[a].built[what] * lead(m) / Math.abs(d(m, a)));
                }
            }
            return limit;
        }

        int cruise(int m) {
            return limit(m, 2);
        }

        int gain(int m) {
            return limit(m, 3);
        }

        int slowest(int m) {
            for (int a = 0; a < 3; a++) {
                if (d(m, a) != 0 && state.axes[a].built[2] * lead(m) / Math.abs(d(m, a)) == cruise(m)) {
                    return a;
                }
            }
            throw new IllegalStateException();
        }

        boolean straight(int m) {
            if (m + 1 >= size) {
                return false;
            }
            boolean straight = true;
            for (int a = 0; a < 3; a++) {
                straight &= d(m, a) * lead(m + 1) == d(m + 1, a) * lead(m);
            }
            return straight;
        }

        int straightPairs() {
            int pairs = 0;
            for (int m = 0; m < size; m++) {
                pairs += straight(m) ? 1 : 0;
            }
            return pairs;
        }

        int[] stepSpeeds(int m) {
            int[] all = new int[lead(m)];
            int gain = gain(m);
            int cruise = cruise(m);
            for (int k = 0; k < all.length; k++) {
                all[k] = Math.min(cruise, Math.min(speeds[m] + gain * k, speeds[m + 1] + gain * (all.length - 1 - k)));
            }
            return all;
        }

        int behind(int m, int a, int k) {
            return (2 * k * Math.abs(d(m, a)) + lead(m)) / (2 * lead(m));
        }

        List<Event> events() {
            List<Event> events = new ArrayList<>();
            int[] latest = {state.axes[0].latest, state.axes[1].latest, state.axes[2].latest};
            for (int m = 0; m < size; m++) {
                events.add(new Event(Kind.BEGIN, m, 0, 0, 0));
                for (int a = 0; a < 3; a++) {
                    int way = Integer.signum(d(m, a));
                    for (int n = 0; state.compensation && way == -latest[a] && n < state.axes[a].built[1]; n++) {
                        events.add(new Event(Kind.COMPENSATE, m, a, way, 1000000 / start));
                    }
                    latest[a] = way == 0 ? latest[a] : way;
                }
                int[] stepSpeeds = stepSpeeds(m);
                for (int k = 0; k < stepSpeeds.length; k++) {
                    events.add(new Event(Kind.STEP, m, 0, 0, 1000000 / stepSpeeds[k]));
                    for (int a = 0; a < 3; a++) {
                        if (behind(m, a, k + 1) != behind(m, a, k)) {
                            events.add(new Event(Kind.TURN, m, a, Integer.signum(d(m, a)), 0));
                        }
                    }
                }
                events.add(new Event(Kind.END, m, 0, 0, 0));
            }
            return events;
        }

        long time(int last) {
            long sum = 0;
            for (Event event : events()) {
                sum += event.move <= last ? event.lasts : 0;
            }
            return sum;
        }

        double length(int m) {
            double v = d(m, 0) * d(m, 0) + d(m, 1) * d(m, 1) + d(m, 2) * d(m, 2);
            double r = v;
            for (int i = 0; i < 60; i++) {
                r = (r + v / r) / 2.0;
            }
            return r;
        }
    }

    private static final class Fault extends Exception {
        private static final long serialVersionUID = 1;
        final int code;
        final int offset;

        Fault(int code, int offset) {
            super("", null, false, false);
            this.code = code;
            this.offset = offset;
        }
    }

    private record Token(String text, int offset) {
    }

    private String input = "";
    private String output = "";
    private int errorCode;
    private int errorOffset = -1;
    private State state = fresh();
    private State saved;
    private final LinkedList<State> before = new LinkedList<>();

    private static State fresh() {
        try {
            return parse("");
        } catch (Fault fault) {
            throw new IllegalStateException(fault);
        }
    }

    // ---- setup: first all tokens, then their meaning ----

    private static String kind(char c) {
        return c >= 'a' && c <= 'z' ? "word" : c >= '0' && c <= '9' ? "number" : c == ' ' || c == '\n' ? "blank" : "" + c;
    }

    private static List<Token> tokens(String text) {
        List<Token> tokens = new ArrayList<>();
        int at = 0;
        while (at < text.length()) {
            String kind = kind(text.charAt(at));
            int end = at + 1;
            while (kind.length() > 1 && end < text.length() && kind(text.charAt(end)).equals(kind)) {
                end++;
            }
            if (!kind.equals("blank")) {
                tokens.add(new Token(text.substring(at, end), at));
            }
            at = end;
        }
        tokens.add(new Token("", text.length()));
        return tokens;
    }

    private static int number(Token token, int least, int most) throws Fault {
        if (!token.text.matches("[0-9]{1,4}")) {
            throw new Fault(1, token.offset);
        }
        int value = Integer.parseInt(token.text);
        if (value < least || value > most) {
            throw new Fault(2, token.offset);
        }
        return value;
    }

    private static State parse(String text) throws Fault {
        State state = new State();
        Set<String> seen = new HashSet<>();
        List<Token> tokens = new LinkedList<>(tokens(text));
        while (!tokens.get(0).text.isEmpty()) {
            Token word = tokens.remove(0);
            if (!List.of("x", "y", "z", "begin", "start", "compensate", "detect").contains(word.text)) {
                throw new Fault(1, word.offset);
            }
            if (!seen.add(word.text) || seen.contains("begin") && word.text.length() == 1) {
                throw new Fault(3, word.offset);
            }
            if (word.text.length() == 1) {
                int[] built = state.axes["xyz".indexOf(word.text)].built;
                built[0] = number(tokens.get(0), 1, 2000);
                built[1] = number(tokens.get(1), 0, 20);
                built[2] = number(tokens.get(2), 1, 5000);
                built[3] = number(tokens.get(3), 1, 500);
                built[4] = number(tokens.get(4), 0, built[0]);
                built[5] = number(tokens.get(5), 0, 20);
                tokens.subList(0, 6).clear();
            } else if (word.text.equals("begin")) {
                for (AxisState axis : state.axes) {
                    axis.at = number(tokens.get(0), 0, axis.built[0]);
                    tokens.remove(0);
                }
            } else if (word.text.equals("start")) {
                state.start = number(tokens.get(0), 1, 1000);
                tokens.remove(0);
            } else if (word.text.equals("compensate")) {
                state.compensation = true;
            } else {
                state.detection = true;
            }
            if (!tokens.get(0).text.equals(";")) {
                throw new Fault(1, tokens.get(0).offset);
            }
            tokens.remove(0);
        }
        for (AxisState axis : state.axes) {
            axis.closed = axis.at <= axis.built[4];
        }
        return state;
    }

    public int appendInput(int a, int b, int c, int d, int e) {
        if (input.length() > 580) {
            return -1;
        }
        for (int word : new int[] {a, b, c, d, e}) {
            for (int shift = 24; shift >= 0; shift -= 8) {
                input += (char) (word >> shift & 255);
            }
        }
        return input.length();
    }

    public boolean truncateInput(int length) {
        if (length < 0 || length > input.length()) {
            return false;
        }
        input = input.substring(0, length);
        return true;
    }

    public int loadTable() {
        String text = input;
        input = "";
        try {
            state = parse(text);
        } catch (Fault fault) {
            errorCode = fault.code;
            errorOffset = fault.offset;
            return -1;
        }
        errorCode = 0;
        errorOffset = -1;
        before.clear();
        saved = null;
        output = "";
        return state.axes[0].built[0] + state.axes[1].built[0] + state.axes[2].built[0];
    }

    public int errorCode() {
        return errorCode;
    }

    public int errorOffset() {
        return errorOffset;
    }

    // ---- helpers of the calls ----

    private AxisState of(int axis) {
        if (axis < 0 || axis > 2) {
            throw new IndexOutOfBoundsException();
        }
        return state.axes[axis];
    }

    private AxisState homed(int axis) {
        if (!of(axis).homed) {
            throw new IllegalStateException();
        }
        return state.axes[axis];
    }

    private Motion motion(int move) {
        if (move < 0 || move >= state.queue.size()) {
            throw new IndexOutOfBoundsException();
        }
        return motion();
    }

    private Motion motion() {
        return new Motion(state, state.queue, state.start);
    }

    private static void argument(boolean fits) {
        if (!fits) {
            throw new IllegalArgumentException();
        }
    }

    private static void allowed(boolean fits) {
        if (!fits) {
            throw new IllegalStateException();
        }
    }

    private void change() {
        before.addLast(state.copy());
        if (before.size() > 10) {
            before.removeFirst();
        }
    }

    private int exchangeQueue(List<int[]> wanted) {
        allowed(!new Motion(state, wanted, state.start).nowhere());
        change();
        state.queue = wanted;
        return wanted.size();
    }

    private void point(int x, int y, int z) {
        int[] point = {x, y, z};
        for (int a = 0; a < 3; a++) {
            argument(point[a] >= 0 && point[a] <= state.axes[a].built[0]);
        }
    }

    private State forecast() {
        State later = state.copy();
        later.detection = false;
        later.run(later.queue.size());
        return later;
    }

    // ---- the calls ----

    public int count(int what) {
        int homed = 0;
        for (AxisState axis : state.axes) {
            homed += axis.homed ? 1 : 0;
        }
        argument(what >= 0 && what <= 6);
        return new int[] {state.start, state.compensation ? 1 : 0, state.detection ? 1 : 0, state.alarm,
            state.queue.size(), homed, before.size()}[what];
    }

    public int axis(int axis, int what) {
        AxisState a = of(axis);
        argument(what >= 0 && what <= 12);
        return what < 6 ? a.built[what]
            : new int[] {a.at, a.slack, a.counted, a.lost, a.stuck, a.homed ? 1 : 0, a.latest}[what - 6];
    }

    public int coordinate(int axis) {
        return homed(axis).coordinate;
    }

    public int error(int axis) {
        return homed(axis).at - homed(axis).zero - homed(axis).coordinate;
    }

    public boolean readsClosed(int axis) {
        return of(axis).reads();
    }

    public long time() {
        return state.time;
    }

    public int home(int axis) {
        of(axis);
        allowed(state.alarm == 0 && state.queue.isEmpty());
        change();
        return state.home(axis);
    }

    public int jog(int axis, int steps) {
        AxisState a = of(axis);
        argument(steps >= -100 && steps <= 100 && steps != 0);
        allowed(state.queue.isEmpty());
        change();
        for (int n = 0; n < Math.abs(steps); n++) {
            a.step(Integer.signum(steps));
            state.time += 1000000 / state.start;
        }
        a.homed = false;
        return a.at;
    }

    public int queue(int x, int y, int z) {
        return insert(state.queue.size(), x, y, z);
    }

    public int unqueue() {
        if (state.queue.isEmpty()) {
            throw new NoSuchElementException();
        }
        change();
        state.queue.remove(state.queue.size() - 1);
        return state.queue.size();
    }

    public int run(int moves) {
        argument(moves >= 1 && moves <= 16);
        if (state.queue.size() < moves) {
            throw new NoSuchElementException();
        }
        change();
        return state.run(moves);
    }

    public int reset() {
        change();
        int alarm = state.alarm;
        state.alarm = 0;
        state.queue.clear();
        state.unhome();
        return alarm;
    }

    public boolean setCompensation(boolean on) {
        change();
        boolean was = state.compensation;
        state.compensation = on;
        return was;
    }

    public boolean setDetection(boolean on) {
        change();
        boolean was = state.detection;
        state.detection = on;
        return was;
    }

    public int setStuck(int axis, int how) {
        of(axis);
        argument(how >= 0 && how <= 2);
        change();
        int was = state.axes[axis].stuck;
        state.axes[axis].stuck = how;
        return was;
    }

    public int setStart(int start) {
        argument(start >= 1 && start <= 1000);
        change();
        int was = state.start;
        state.start = start;
        return was;
    }

    public int target(int move, int axis) {
        motion(move);
        of(axis);
        return state.queue.get(move)[axis];
    }

    public int move(int move, int what) {
        Motion motion = motion(move);
        argument(what >= 0 && what <= 7);
        int greatest = 0;
        int often = 0;
        for (int speed : motion.stepSpeeds(move)) {
            often = speed > greatest ? 1 : speed == greatest ? often + 1 : often;
            greatest = Math.max(greatest, speed);
        }
        return new int[] {motion.lead(move), motion.cruise(move), motion.gain(move), motion.speeds[move],
            motion.speeds[move + 1], greatest, often, motion.straight(move) ? 1 : 0}[what];
    }

    public int speed(int move, int step) {
        int[] speeds = motion(move).stepSpeeds(move);
        if (step < 0 || step >= speeds.length) {
            throw new NoSuchElementException();
        }
        return speeds[step];
    }

    public int stepsBehind(int move, int axis, int steps) {
        Motion motion = motion(move);
        of(axis);
        argument(steps >= 0 && steps <= motion.lead(move));
        return motion.behind(move, axis, steps);
    }

    public float deviation(int move) {
        Motion motion = motion(move);
        float greatest = 0;
        for (int a = 0; a < 3; a++) {
            for (int k = 0; k <= motion.lead(move); k++) {
                float wanted = (float) (k * Math.abs(motion.d(move, a))) / (float) motion.lead(move);
                greatest = Math.max(greatest, Math.abs(motion.behind(move, a, k) - wanted));
            }
        }
        return greatest;
    }

    public int homeAll() {
        allowed(state.alarm == 0 && state.queue.isEmpty());
        change();
        int steps = 0;
        for (int a = 2; a >= 0 && state.alarm == 0; a--) {
            steps += state.home(a);
        }
        return state.alarm == 0 ? steps : -1;
    }

    public int runAll() {
        change();
        return state.run(state.queue.size());
    }

    public int insert(int move, int x, int y, int z) {
        argument(move >= 0 && move <= state.queue.size());
        point(x, y, z);
        allowed(state.alarm == 0 && state.allHomed() && state.queue.size() < 16);
        List<int[]> wanted = new ArrayList<>(state.queue);
        wanted.add(move, new int[] {x, y, z});
        return exchangeQueue(wanted);
    }

    public int dropTarget(int move) {
        motion(move);
        List<int[]> wanted = new ArrayList<>(state.queue);
        wanted.remove(move);
        return exchangeQueue(wanted);
    }

    public int swapTargets(int move, int other) {
        motion(move);
        motion(other);
        List<int[]> wanted = new ArrayList<>(state.queue);
        wanted.set(move, state.queue.get(other));
        wanted.set(other, state.queue.get(move));
        exchangeQueue(wanted);
        return motion().straightPairs();
    }

    public int pointAt(int move, int axis, int steps) {
        int made = stepsBehind(move, axis, steps);
        Motion motion = motion();
        return motion.points.get(move)[axis] + made * Integer.signum(motion.d(move, axis));
    }

    public int rampSteps(int move, boolean up) {
        int[] speeds = motion(move).stepSpeeds(move);
        int found = 0;
        for (int k = 1; k < speeds.length; k++) {
            found += (up ? speeds[k] > speeds[k - 1] : speeds[k] < speeds[k - 1]) ? 1 : 0;
        }
        return found;
    }

    public int slowest(int move) {
        return motion(move).slowest(move);
    }

    public int straightPairs() {
        return motion().straightPairs();
    }

    public int bound(int axis, boolean greatest) {
        int found = homed(axis).coordinate;
        for (int[] target : state.queue) {
            if (greatest ? target[axis] > found : target[axis] < found) {
                found = target[axis];
            }
        }
        return found;
    }

    private int nearestOf(List<Integer> left, long x, long y, long z) {
        int best = -1;
        long least = Long.MAX_VALUE;
        for (int m : left) {
            int[] t = state.queue.get(m);
            long lead = Math.max(Math.max(Math.abs(t[0] - x), Math.abs(t[1] - y)), Math.abs(t[2] - z));
            if (lead < least) {
                best = m;
                least = lead;
            }
        }
        return best;
    }

    private List<Integer> allMoves() {
        List<Integer> all = new ArrayList<>();
        for (int m = 0; m < state.queue.size(); m++) {
            all.add(m);
        }
        return all;
    }

    public int nearest(int x, int y, int z) {
        return nearestOf(allMoves(), x, y, z);
    }

    public int nearestOrder(int index) {
        if (index < 0 || index >= state.queue.size()) {
            throw new NoSuchElementException();
        }
        List<Integer> left = allMoves();
        List<Integer> order = new ArrayList<>();
        int[] at = state.here();
        while (!left.isEmpty()) {
            int next = nearestOf(left, at[0], at[1], at[2]);
            order.add(next);
            left.remove(Integer.valueOf(next));
            at = state.queue.get(next);
        }
        return order.get(index);
    }

    public long lastsUntil(int move) {
        return motion(move).time(move);
    }

    public int whereAt(int axis, int time) {
        of(axis);
        argument(time >= 0);
        int where = homed(axis).coordinate;
        long now = 0;
        for (Event event : motion().events()) {
            now += event.lasts;
            if (now <= time && event.kind == Kind.TURN && event.axis == axis) {
                where += event.way;
            }
        }
        return where;
    }

    public int trueBehind(int axis) {
        of(axis);
        return forecast().axes[axis].at;
    }

    public double lineLength(int move) {
        return motion(move).length(move);
    }

    public double queueLength() {
        double sum = 0.0;
        for (int m : allMoves()) {
            sum += motion().length(m);
        }
        return sum;
    }

    public double meanSpeed(int move) {
        Motion motion = motion(move);
        long lasts = 0;
        for (int speed : motion.stepSpeeds(move)) {
            lasts += 1000000 / speed;
        }
        return (double) (1000000L * motion.lead(move)) / (double) lasts;
    }

    public int travel(int axis) {
        of(axis);
        Motion motion = motion();
        int sum = 0;
        for (int m : allMoves()) {
            sum += Math.abs(motion.d(m, axis));
        }
        return sum;
    }

    public int turnsAhead(int axis) {
        of(axis);
        State later = forecast();
        return later.axes[axis].account[5] - state.axes[axis].account[5];
    }

    public long queueTime() {
        return motion().time(16);
    }

    public long straightTime(int x, int y, int z) {
        point(x, y, z);
        allowed(state.allHomed());
        List<int[]> target = new ArrayList<>();
        target.add(new int[] {x, y, z});
        Motion straight = new Motion(state, target, state.start);
        return straight.lead(0) == 0 ? 0 : straight.time(0);
    }

    public int wouldLose() {
        State later = forecast();
        int lost = 0;
        for (int a = 0; a < 3; a++) {
            lost += later.axes[a].lost - state.axes[a].lost;
        }
        return lost;
    }

    public int wouldErr(int axis) {
        homed(axis);
        AxisState later = forecast().axes[axis];
        return later.at - later.zero - later.coordinate;
    }

    public int wouldHome(int axis) {
        of(axis);
        return state.copy().home(axis);
    }

    public int bestFirst() {
        int best = -1;
        long least = Long.MAX_VALUE;
        for (int first : allMoves()) {
            List<int[]> order = new ArrayList<>(state.queue);
            order.add(0, order.remove(first));
            List<int[]> kept = new ArrayList<>();
            int[] at = state.here();
            for (int[] target : order) {
                if (target[0] != at[0] || target[1] != at[1] || target[2] != at[2]) {
                    kept.add(target);
                }
                at = target;
            }
            long lasts = new Motion(state, kept, state.start).time(16);
            if (lasts < least) {
                best = first;
                least = lasts;
            }
        }
        return best;
    }

    public int bestStart() {
        if (state.queue.isEmpty()) {
            throw new NoSuchElementException();
        }
        int best = 0;
        long least = Long.MAX_VALUE;
        for (int start = 50; start <= 1000; start += 50) {
            long lasts = new Motion(state, state.queue, start).time(16);
            if (lasts < least) {
                best = start;
                least = lasts;
            }
        }
        return best;
    }

    public int slackLeft(int axis, boolean forward) {
        AxisState probe = of(axis).copy();
        int from = probe.at;
        for (int n = 1; n <= 21; n++) {
            probe.step(forward ? 1 : -1);
            if (probe.at != from) {
                return n;
            }
        }
        return -1;
    }

    public int account(int axis, int what) {
        of(axis);
        argument(what >= 0 && what <= 5);
        return state.axes[axis].account[what];
    }

    public double meanDuration() {
        return state.steps == 0 ? 0.0 : (double) state.durations / (double) state.steps;
    }

    public float lostShare(int axis) {
        AxisState a = of(axis);
        int steps = a.account[0] + a.account[1];
        return steps == 0 ? 0f : (float) a.lost / (float) steps;
    }

    public int printQueue() {
        List<String> parts = new ArrayList<>();
        for (int[] target : state.queue) {
            parts.add(target[0] + "," + target[1] + "," + target[2]);
        }
        output = parts.isEmpty() ? "." : String.join(" ", parts);
        return output.length();
    }

    public int outputByte(int index) {
        return index >= 0 && index < output.length() ? output.charAt(index) : -1;
    }

    public int undo() {
        if (before.isEmpty()) {
            return -1;
        }
        state = before.removeLast();
        return before.size();
    }

    public int saveState() {
        saved = state.copy();
        return state.queue.size();
    }

    public int restoreState() {
        allowed(saved != null);
        state = saved.copy();
        before.clear();
        return state.queue.size();
    }
}
