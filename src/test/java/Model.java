import java.util.ArrayList;
import java.util.List;

/** The bench as the document tells it, in the plainest way; programs come to it as trees. */
final class Model {
    final StringBuilder tape = new StringBuilder();
    Generator program;
    int errorPlace = -1;
    Tree asked;
    private final List<Long> times = new ArrayList<>();
    private final List<long[]> rows = new ArrayList<>();
    private List<Long> keptTimes = new ArrayList<>();
    private List<long[]> keptRows = new ArrayList<>();
    private long[] settings = new long[0];
    private final int[] doneAt = new int[120];
    private int clock = 0;

    private static void check(boolean isRight, RuntimeException exception) {
        if (!isRight) {
            throw exception;
        }
    }

    private static IndexOutOfBoundsException bounds() {
        return new IndexOutOfBoundsException();
    }

    private static IllegalStateException state() {
        return new IllegalStateException();
    }

    private static IllegalArgumentException argument() {
        return new IllegalArgumentException();
    }

    // ---- programs

    Object feed(int... five) {
        check(tape.length() + 20 <= 1800, state());
        for (int number : five) {
            for (int shift = 24; shift >= 0; shift -= 8) {
                tape.append((char) (number >>> shift & 255));
            }
        }
        return tape.length();
    }

    Object trim(int n) {
        check(n >= 0 && n <= tape.length(), argument());
        tape.setLength(n);
        return n;
    }

    /** The program is null if the text on the tape has an error. */
    Object compile(Generator right, int error, int place) {
        tape.setLength(0);
        program = right;
        asked = null;
        errorPlace = place;
        begin();
        return error;
    }

    Object count(int what) {
        check(what >= 0 && what <= 6, bounds());
        return number(what);
    }

    private int number(int what) {
        if (what >= 4) {
            return what == 4 ? times.size() : what == 5 ? keptTimes.size() : tape.length();
        }
        if (program == null) {
            return 0;
        }
        return what == 0 ? program.signals.size() : what == 1 ? program.lets.size() : what == 2 ? program.values.size() : program.watches.size();
    }

    // ---- steps

    private void begin() {
        times.clear();
        rows.clear();
        settings = new long[number(0)];
        for (int i = 0; i < settings.length; i++) {
            settings[i] = program.firsts.get(i);
        }
    }

    private void step(long time) {
        clock++;
        doneAt[times.size()] = clock;
        times.add(time);
        rows.add(settings.clone());
    }

    private int broken(int level) {
        int broken = 0;
        for (int i = 0; i < number(3) && !times.isEmpty(); i++) {
            if (program.levels.get(i) >= level && !holds(program.watches.get(i), times.size() - 1)) {
                broken++;
            }
        }
        return broken;
    }

    Object set(int signal, long value) {
        check(signal >= 0 && signal < number(0), bounds());
        long before = settings[signal];
        settings[signal] = value;
        return before;
    }

    Object tick(int more) {
        check(more >= 0 && more <= 1000, argument());
        check(program != null && times.size() < 120, state());
        step((times.isEmpty() ? 0 : times.get(times.size() - 1)) + more);
        return broken(0);
    }

    Object back(int steps) {
        check(steps >= 0 && steps <= times.size(), argument());
        while (times.size() > steps) {
            times.remove(times.size() - 1);
            rows.remove(rows.size() - 1);
        }
        return steps == 0 ? 0 : (int) (long) times.get(steps - 1);
    }

    Object restart() {
        check(program != null, state());
        begin();
        return number(3);
    }

    Object keep() {
        keptTimes = new ArrayList<>(times);
        keptRows = new ArrayList<>(rows);
        return times.size();
    }

    Object replay() {
        check(program != null, state());
        begin();
        int good = 0;
        for (int i = 0; i < keptTimes.size(); i++) {
            long[] row = keptRows.get(i);
            System.arraycopy(row, 0, settings, 0, Math.min(row.length, settings.length));
            step(keptTimes.get(i));
            good += broken(0) == 0 ? 1 : 0;
        }
        return good;
    }

    private void checkStep(int step) {
        check(step >= 0 && step < times.size(), bounds());
    }

    private void checkItem(int sort, int item) {
        check(item >= 0 && item < number(sort), bounds());
    }

    Object time(int step) {
        checkStep(step);
        return (int) (long) times.get(step);
    }

    // ---- what is told

    Object signal(int signal, int step) {
        checkItem(0, signal);
        checkStep(step);
        return rows.get(step)[signal];
    }

    Object value(int value, int step) {
        checkItem(2, value);
        checkStep(step);
        return number(program.values.get(value), step);
    }

    Object let(int let, int step) {
        checkItem(1, let);
        checkStep(step);
        return holds(program.lets.get(let), step);
    }

    Object watch(int watch, int step) {
        checkItem(3, watch);
        checkStep(step);
        return holds(program.watches.get(watch), step);
    }

    Object told(int watch, int what) {
        checkItem(3, watch);
        check(what >= 0 && what <= 4, bounds());
        StringBuilder row = new StringBuilder();
        for (int i = 0; i < times.size(); i++) {
            row.append(holds(program.watches.get(watch), i) ? '1' : '0');
        }
        String text = row.toString();
        switch (what) {
            case 0: return program.levels.get(watch);
            case 1: return text.replace("1", "").length();
            case 2: return text.indexOf('0');
            case 3:
                int most = 0;
                for (String part : text.split("1")) {
                    most = Math.max(most, part.length());
                }
                return most;
            default: return text.length() - 1 - text.lastIndexOf('1');
        }
    }

    Object alarms(int level) {
        check(level >= 0 && level <= 9, argument());
        return broken(level);
    }

    Object why(int watch, int step, boolean isStep) {
        checkItem(3, watch);
        checkStep(step);
        check(!holds(program.watches.get(watch), step), state());
        return reason(program.watches.get(watch), step)[isStep ? 1 : 0];
    }

    Object differ(int a, int b) {
        checkItem(3, a);
        checkItem(3, b);
        for (int i = 0; i < times.size(); i++) {
            if (holds(program.watches.get(a), i) != holds(program.watches.get(b), i)) {
                return i;
            }
        }
        return -1;
    }

    Object share(int watch) {
        checkItem(3, watch);
        int good = 0;
        for (int i = 0; i < times.size(); i++) {
            good += holds(program.watches.get(watch), i) ? 1 : 0;
        }
        return times.isEmpty() ? 1.0 : (double) good / times.size();
    }

    // ---- questions

    Object ask(Tree formula, int error, int place) {
        tape.setLength(0);
        errorPlace = place;
        if (error == 0) {
            asked = formula;
        }
        return error;
    }

    Object answer(int step) {
        checkStep(step);
        check(asked != null, state());
        return holds(asked, step);
    }

    Object digest() {
        List<Long> row = new ArrayList<>();
        for (int what = 0; what <= 6; what++) {
            row.add((long) number(what));
        }
        for (int i = 0; i < times.size(); i++) {
            row.add(times.get(i));
            for (long value : rows.get(i)) {
                row.add(value);
            }
            for (Tree value : program.values) {
                row.add(number(value, i));
            }
            for (Tree let : program.lets) {
                row.add(holds(let, i) ? 1L : 0L);
            }
            for (Tree watch : program.watches) {
                row.add(holds(watch, i) ? 1L : 0L);
            }
        }
        for (int i = 0; i < number(3); i++) {
            for (int what = 0; what <= 4; what++) {
                row.add((long) (int) told(i, what));
            }
        }
        for (long value : settings) {
            row.add(value);
        }
        long d = 383;
        for (long x : row) {
            d = d * 31 + x;
        }
        return d;
    }

    // ---- the meaning, by the words of the document

    private boolean holds(Tree tree, int i) {
        return number(tree, i) != 0;
    }

    private long number(Tree tree, int i) {
        if (tree.knownAt[i] != doneAt[i]) {
            tree.known[i] = reckon(tree, i);
            tree.knownAt[i] = doneAt[i];
        }
        return tree.known[i];
    }

    private long reckon(Tree tree, int i) {
        switch (tree.op) {
            case "number": return tree.number;
            case "signal": return rows.get(i)[(int) tree.number];
            case "time": return times.get(i);
            case "step": return i;
            case "value": case "is": return number(tree.target, i);
            case "true": return 1;
            case "false": return 0;
            case "old": return i == 0 ? 0 : number(tree.parts.get(0), i - 1);
            case "negative": return -number(tree.parts.get(0), i);
            case "max": case "min": case "sum": return fold(tree, i);
            case "count": case "last": case "at": return lastOf(tree, i);
            case "if": return number(tree.parts.get(holds(tree.parts.get(0), i) ? 1 : 2), i);
            case "+": case "-": case "*": case "/": case "%":
                return joined(tree.op, number(tree.parts.get(0), i), number(tree.parts.get(1), i));
            case "=": case "<>": case "<": case ">": case "<=": case ">=":
                return compared(tree.op, number(tree.parts.get(0), i), number(tree.parts.get(1), i)) ? 1 : 0;
            default: return formula(tree, i) ? 1 : 0;
        }
    }

    private static long joined(String op, long a, long b) {
        switch (op) {
            case "+": return a + b;
            case "-": return a - b;
            case "*": return a * b;
            case "/": return b == 0 ? 0 : a / b;
            default: return b == 0 ? 0 : a % b;
        }
    }

    private static boolean compared(String op, long a, long b) {
        switch (op) {
            case "=": return a == b;
            case "<>": return a != b;
            case "<": return a < b;
            case ">": return a > b;
            case "<=": return a <= b;
            default: return a >= b;
        }
    }

    private long fold(Tree tree, int i) {
        long result = number(tree.parts.get(0), 0);
        for (int j = 1; j <= i; j++) {
            long next = number(tree.parts.get(0), j);
            result = tree.op.equals("max") ? Math.max(result, next) : tree.op.equals("min") ? Math.min(result, next) : result + next;
        }
        return result;
    }

    private long lastOf(Tree tree, int i) {
        int many = 0;
        int last = -1;
        for (int j = 0; j <= i; j++) {
            if (holds(tree.parts.get(0), j)) {
                many++;
                last = j;
            }
        }
        if (tree.op.equals("count")) {
            return many;
        }
        if (tree.op.equals("last")) {
            return last < 0 ? -1 : times.get(i) - times.get(last);
        }
        return last < 0 ? 0 : number(tree.parts.get(1), last);
    }

    private boolean isMeant(Tree tree, int i, int j) {
        long age = times.get(i) - times.get(j);
        return age >= tree.low && age <= tree.high;
    }

    private boolean formula(Tree tree, int i) {
        Tree f = tree.parts.get(0);
        switch (tree.op) {
            case "not": return !holds(f, i);
            case "and": return tree.parts.stream().allMatch(part -> holds(part, i));
            case "or": return tree.parts.stream().anyMatch(part -> holds(part, i));
            case "implies": return !holds(f, i) || holds(tree.parts.get(1), i);
            case "prev": return i != 0 && holds(f, i - 1);
            case "rise": return holds(f, i) && (i == 0 || !holds(f, i - 1));
            case "fall": return !holds(f, i) && i != 0 && holds(f, i - 1);
            case "once": return looked(tree, i, true) >= 0;
            case "always": return looked(tree, i, false) < 0;
            default: return since(tree, i);
        }
    }

    /** The first step meant at which the operand does, or does not, hold; -1 if there is none. */
    private int looked(Tree tree, int i, boolean wanted) {
        for (int j = 0; j <= i; j++) {
            if (isMeant(tree, i, j) && holds(tree.parts.get(0), j) == wanted) {
                return j;
            }
        }
        return -1;
    }

    private boolean since(Tree tree, int i) {
        for (int j = 0; j <= i; j++) {
            boolean all = isMeant(tree, i, j) && holds(tree.parts.get(1), j);
            for (int k = j + 1; k <= i && all; k++) {
                all = holds(tree.parts.get(0), k);
            }
            if (all) {
                return true;
            }
        }
        return false;
    }

    private int[] reason(Tree tree, int i) {
        switch (tree.op) {
            case "and":
                for (Tree part : tree.parts) {
                    if (!holds(part, i)) {
                        return reason(part, i);
                    }
                }
                throw new Error("an and that holds has no reason");
            case "or":
            case "implies":
                return reason(tree.parts.get(tree.parts.size() - 1), i);
            case "always":
                return reason(tree.parts.get(0), looked(tree, i, false));
            case "prev":
                return i != 0 ? reason(tree.parts.get(0), i - 1) : new int[] {tree.place, i};
            case "is":
                return reason(tree.target, i);
            default:
                return new int[] {tree.place, i};
        }
    }
}
