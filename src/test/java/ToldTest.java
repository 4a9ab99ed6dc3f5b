/** Promises 14 to 22: what is told of signals, values, lets and watches. */
final class ToldTest {
    private static final Class<?> STATE = IllegalStateException.class;
    private static final Class<?> ARGUMENT = IllegalArgumentException.class;
    private static final Class<?> BOUNDS = IndexOutOfBoundsException.class;
    private static final String PROGRAM = "signal s = 0; signal k = 4; let l := s > 1; let m := k = 4; value v = s + 1; "
        + "watch w: s = 1; watch x: s = 1 or s = 3 level 9; watch y: true level 0; watch z: s > 5 level 4;";

    public static void main(String[] args) {
        reading();
        telling();
        tellingNothing();
        alarms();
        why();
        differ();
        share();
        Checks.end("ToldTest");
    }

    private static PastWatch bench(int... values) {
        PastWatch bench = Checks.bench(PROGRAM);
        for (int value : values) {
            bench.set(0, value);
            bench.tick(1);
        }
        return bench;
    }

    private static void reading() {
        PastWatch bench = bench(1, 2, 3);
        for (int step = 0; step < 3; step++) {
            Checks.due("signal", step + 1L, bench.signal(0, step));
            Checks.due("signal", 4L, bench.signal(1, step));
            Checks.due("value", step + 2L, bench.value(0, step));
            Checks.due("let", step > 0, bench.let(0, step));
            Checks.due("let", true, bench.let(1, step));
            Checks.due("watch", step == 0, bench.watch(0, step));
            Checks.due("watch", true, bench.watch(2, step));
            Checks.due("watch", false, bench.watch(3, step));
        }
        for (int wrong : new int[] {-1, 12, 3, Integer.MIN_VALUE, Integer.MAX_VALUE}) {
            Checks.refuses("signal", BOUNDS, () -> bench.signal(0, wrong));
            Checks.refuses("value", BOUNDS, () -> bench.value(0, wrong));
            Checks.refuses("let", BOUNDS, () -> bench.let(0, wrong));
            Checks.refuses("watch", BOUNDS, () -> bench.watch(0, wrong));
            Checks.refuses("why", BOUNDS, () -> bench.why(3, wrong, true));
            Checks.refuses("signal", BOUNDS, () -> bench.signal(wrong, 0));
            Checks.refuses("value", BOUNDS, () -> bench.value(wrong, 0));
            Checks.refuses("let", BOUNDS, () -> bench.let(wrong, 0));
        }
        Checks.refuses("signal", BOUNDS, () -> bench.signal(2, 0));
        Checks.refuses("value", BOUNDS, () -> bench.value(1, 0));
        Checks.refuses("let", BOUNDS, () -> bench.let(2, 0));
        Checks.refuses("watch", BOUNDS, () -> bench.watch(4, 0));
        Checks.refuses("watch", BOUNDS, () -> bench.watch(-1, 0));
    }

    private static void told(PastWatch bench, int watch, int... want) {
        for (int what = 0; what < want.length; what++) {
            Checks.due("told(" + watch + ", " + what + ")", want[what], bench.told(watch, what));
        }
    }

    private static void telling() {
        PastWatch bench = bench(1, 2, 2, 1, 3, 3, 3, 1, 2, 2);
        told(bench, 0, 5, 7, 1, 3, 2);
        told(bench, 1, 9, 4, 1, 2, 2);
        told(bench, 2, 0, 0, -1, 0, 0);
        told(bench, 3, 4, 10, 0, 10, 10);
        bench.set(0, 1);
        bench.tick(0);
        told(bench, 0, 5, 7, 1, 3, 0);
        bench.back(2);
        told(bench, 0, 5, 1, 1, 1, 1);
        Checks.refuses("told", BOUNDS, () -> bench.told(0, -1));
        Checks.refuses("told", BOUNDS, () -> bench.told(0, 5));
        Checks.refuses("told", BOUNDS, () -> bench.told(-1, 0));
        Checks.refuses("told", BOUNDS, () -> bench.told(4, 0));
    }

    private static void tellingNothing() {
        PastWatch bench = bench();
        told(bench, 0, 5, 0, -1, 0, 0);
        told(bench, 1, 9, 0, -1, 0, 0);
        PastWatch empty = new PastWatch();
        Checks.refuses("told without a program", BOUNDS, () -> empty.told(0, 0));
        // A level told by a program is not there in the next one.
        Checks.compile(bench, "watch a: true; watch b: false;");
        told(bench, 0, 5);
        told(bench, 1, 5);
    }

    private static void alarms() {
        PastWatch bench = bench();
        Checks.due("alarms without steps", 0, bench.alarms(0));
        bench.set(0, 2);
        bench.tick(0);
        // w of level 5, x of level 9 and z of level 4 do not hold.
        int[] want = {3, 3, 3, 3, 3, 2, 1, 1, 1, 1};
        for (int level = 0; level <= 9; level++) {
            Checks.due("alarms(" + level + ")", want[level], bench.alarms(level));
        }
        Checks.refuses("alarms(-1)", ARGUMENT, () -> bench.alarms(-1));
        Checks.refuses("alarms(10)", ARGUMENT, () -> bench.alarms(10));
        bench.set(0, 6);
        bench.tick(0);
        Checks.due("alarms", 2, bench.alarms(0));
        Checks.due("alarms", 2, bench.alarms(5));
        bench.back(1);
        Checks.due("alarms", 3, bench.alarms(0));
        bench.back(0);
        Checks.due("alarms", 0, bench.alarms(0));
        Checks.compile(bench, "watch w: false level 0;");
        bench.tick(0);
        Checks.due("alarms of level 0", 1, bench.alarms(0));
        Checks.due("alarms of level 1", 0, bench.alarms(1));
    }

    private static void why() {
        PastWatch bench = bench(1, 2);
        Checks.refuses("why of what holds", STATE, () -> bench.why(0, 0, true));
        Checks.refuses("why of what holds", STATE, () -> bench.why(0, 0, false));
        Checks.due("step", 1, bench.why(0, 1, true));
        Checks.due("place", PROGRAM.indexOf("s = 1;"), bench.why(0, 1, false));
        Checks.due("place", PROGRAM.indexOf("s = 3 level"), bench.why(1, 1, false));
        Checks.refuses("why(4)", BOUNDS, () -> bench.why(4, 0, true));
        Checks.refuses("why(-1)", BOUNDS, () -> bench.why(-1, 0, true));
        Checks.refuses("why at a step that is not there", BOUNDS, () -> bench.why(2, 2, true));
    }

    private static void differ() {
        PastWatch bench = bench(1, 1, 3, 2);
        Checks.due("differ", 2, bench.differ(0, 1));
        Checks.due("differ", 2, bench.differ(1, 0));
        Checks.due("differ of itself", -1, bench.differ(0, 0));
        Checks.due("differ at once", 0, bench.differ(2, 3));
        Checks.due("differ", 3, bench.differ(1, 2));
        bench.back(2);
        Checks.due("differ no more", -1, bench.differ(0, 1));
        Checks.refuses("differ", BOUNDS, () -> bench.differ(4, 0));
        Checks.refuses("differ", BOUNDS, () -> bench.differ(0, 4));
        Checks.refuses("differ", BOUNDS, () -> bench.differ(-1, 0));
        Checks.refuses("differ", BOUNDS, () -> bench.differ(0, -1));
    }

    private static void share() {
        PastWatch bench = bench();
        Checks.due("share of none", 1.0, bench.share(3));
        bench.set(0, 1);
        bench.tick(0);
        bench.set(0, 2);
        bench.tick(0);
        bench.tick(0);
        Checks.due("share", 1.0 / 3.0, bench.share(0));
        Checks.due("share", 1.0, bench.share(2));
        Checks.due("share", 0.0, bench.share(3));
        Checks.refuses("share", BOUNDS, () -> bench.share(4));
        Checks.refuses("share", BOUNDS, () -> bench.share(-1));
    }
}
