/** Promises 7 to 13: set, tick, back, restart, keep, replay, time. */
final class StepsTest {
    private static final Class<?> STATE = IllegalStateException.class;
    private static final Class<?> ARGUMENT = IllegalArgumentException.class;
    private static final Class<?> BOUNDS = IndexOutOfBoundsException.class;

    public static void main(String[] args) {
        setting();
        ticking();
        mostSteps();
        goingBack();
        restarting();
        keeping();
        replaying();
        replayingUnderOthers();
        replayingNothing();
        Checks.end("StepsTest");
    }

    private static void setting() {
        PastWatch bench = Checks.bench("signal a = 7; signal b = -3; watch w: a > b;");
        Checks.due("set a", 7L, bench.set(0, Long.MIN_VALUE));
        Checks.due("set a", Long.MIN_VALUE, bench.set(0, 5));
        Checks.due("set b", -3L, bench.set(1, Long.MAX_VALUE));
        Checks.refuses("set(2)", BOUNDS, () -> bench.set(2, 0));
        Checks.refuses("set(-1)", BOUNDS, () -> bench.set(-1, 0));
        Checks.refuses("set(max)", BOUNDS, () -> bench.set(Integer.MAX_VALUE, 0));
        bench.tick(0);
        Checks.due("a", 5L, bench.signal(0, 0));
        Checks.due("b", Long.MAX_VALUE, bench.signal(1, 0));
        bench.set(0, 6);
        Checks.due("a stays at the step", 5L, bench.signal(0, 0));
        bench.tick(0);
        bench.tick(0);
        Checks.due("a stays set", 6L, bench.signal(0, 2));
        Checks.due("b stays set", Long.MAX_VALUE, bench.signal(1, 2));
    }

    private static void ticking() {
        PastWatch bench = Checks.bench("signal a = 7; watch v: a > 5; watch w: a > 6; watch x: true;");
        Checks.refuses("tick(-1)", ARGUMENT, () -> bench.tick(-1));
        Checks.refuses("tick(1001)", ARGUMENT, () -> bench.tick(1001));
        Checks.refuses("tick(min)", ARGUMENT, () -> bench.tick(Integer.MIN_VALUE));
        Checks.due("no step yet", 0, bench.count(4));
        Checks.due("tick", 0, bench.tick(1000));
        Checks.due("time", 1000, bench.time(0));
        bench.set(0, 6);
        Checks.due("tick", 1, bench.tick(0));
        Checks.due("time", 1000, bench.time(1));
        bench.set(0, 5);
        Checks.due("tick", 2, bench.tick(17));
        Checks.due("time", 1017, bench.time(2));
        Checks.refuses("time(3)", BOUNDS, () -> bench.time(3));
        Checks.refuses("time(-1)", BOUNDS, () -> bench.time(-1));
        Checks.due("steps", 3, bench.count(4));
        PastWatch empty = new PastWatch();
        Checks.refuses("tick without a program", STATE, () -> empty.tick(1000));
        Checks.refuses("the argument comes first", ARGUMENT, () -> empty.tick(1001));
        Checks.refuses("time without steps", BOUNDS, () -> empty.time(0));
    }

    private static void mostSteps() {
        PastWatch bench = Checks.bench("value v = sum 1; watch w: v < 121; watch x: once[1000..1000] step = 0;");
        for (int step = 0; step < 120; step++) {
            Checks.due("tick", step == 1 ? 0 : 1, bench.tick(1000));
            Checks.due("count", step + 1L, bench.value(0, step));
        }
        Checks.refuses("121st step", STATE, () -> bench.tick(0));
        Checks.refuses("the argument comes first", ARGUMENT, () -> bench.tick(-1));
        Checks.due("steps", 120, bench.count(4));
        Checks.due("time", 120000, bench.time(119));
        Checks.due("back", 119000, bench.back(119));
        Checks.due("tick", 1, bench.tick(1));
        Checks.due("time", 119001, bench.time(119));
        Checks.due("keep", 120, bench.keep());
        Checks.due("replay", 1, bench.replay());
        Checks.due("steps", 120, bench.count(4));
        Checks.refuses("121st step", STATE, () -> bench.tick(0));
    }

    private static void goingBack() {
        PastWatch bench = Checks.bench("signal a = 1; value v = sum a; let l := once a = 3; watch w: always a < 4;");
        Checks.due("back of nothing", 0, bench.back(0));
        Checks.refuses("back(1)", ARGUMENT, () -> bench.back(1));
        for (int i = 1; i <= 5; i++) {
            bench.set(0, i);
            bench.tick(i);
        }
        Checks.refuses("back(-1)", ARGUMENT, () -> bench.back(-1));
        Checks.refuses("back(6)", ARGUMENT, () -> bench.back(6));
        Checks.due("back to all", 15, bench.back(5));
        Checks.due("v", 15L, bench.value(0, 4));
        Checks.due("w", false, bench.watch(0, 4));
        Checks.due("back", 3, bench.back(2));
        Checks.refuses("step gone", BOUNDS, () -> bench.value(0, 2));
        Checks.refuses("step gone", BOUNDS, () -> bench.time(2));
        Checks.due("what is set stays", 5L, bench.set(0, 2));
        Checks.due("tick", 0, bench.tick(100));
        Checks.due("time", 103, bench.time(2));
        Checks.due("v", 5L, bench.value(0, 2));
        Checks.due("l", false, bench.let(0, 2));
        Checks.due("w", true, bench.watch(0, 2));
        Checks.due("back to none", 0, bench.back(0));
        Checks.due("tick", 0, bench.tick(4));
        Checks.due("time", 4, bench.time(0));
        Checks.due("v", 2L, bench.value(0, 0));
    }

    private static void restarting() {
        PastWatch bench = Checks.bench("signal a = 1; signal b = 2; watch v: a = 1; watch w: b = 2;");
        bench.set(0, 5);
        bench.set(1, 6);
        Checks.due("tick", 2, bench.tick(9));
        Checks.due("keep", 1, bench.keep());
        Checks.due("restart", 2, bench.restart());
        Checks.due("steps", 0, bench.count(4));
        Checks.due("kept", 1, bench.count(5));
        Checks.due("tick", 0, bench.tick(3));
        Checks.due("time", 3, bench.time(0));
        Checks.due("set", 1L, bench.set(0, 0));
        Checks.due("set", 2L, bench.set(1, 0));
        PastWatch empty = new PastWatch();
        Checks.refuses("restart without a program", STATE, () -> empty.restart());
        Checks.compile(empty, "watch w");
        Checks.refuses("restart behind an error", STATE, () -> empty.restart());
    }

    private static void keeping() {
        PastWatch bench = Checks.bench("signal a = 1; watch w: a < 4;");
        for (int i = 1; i <= 5; i++) {
            bench.set(0, i);
            bench.tick(i);
        }
        Checks.due("keep", 5, bench.keep());
        Checks.due("kept", 5, bench.count(5));
        Checks.due("steps", 5, bench.count(4));
        bench.back(1);
        bench.set(0, 9);
        bench.tick(50);
        Checks.due("kept", 5, bench.count(5));
        Checks.due("replay", 3, bench.replay());
        Checks.due("signal", 2L, bench.signal(0, 1));
        Checks.due("time", 3, bench.time(1));
        bench.back(2);
        Checks.due("keep in its place", 2, bench.keep());
        Checks.due("kept", 2, bench.count(5));
        bench.back(0);
        Checks.due("replay", 2, bench.replay());
        Checks.due("steps", 2, bench.count(4));
        bench.restart();
        Checks.due("keep nothing", 0, bench.keep());
        Checks.due("kept", 0, bench.count(5));
        bench.tick(1);
        Checks.due("replay nothing", 0, bench.replay());
        Checks.due("steps", 0, bench.count(4));
    }

    private static void replaying() {
        PastWatch bench = Checks.bench("signal a = 1; signal b = 2; watch v: a < 4; watch w: b > 1; watch x: prev a < 3 or step = 0;");
        long[][] rows = {{1, 2, 0}, {5, 2, 3}, {2, 2, 3}, {0, 0, 4}, {3, 3, 1000}};
        for (long[] row : rows) {
            bench.set(0, row[0]);
            bench.set(1, row[1]);
            bench.tick((int) row[2]);
        }
        bench.keep();
        long digest = bench.digest();
        bench.set(0, 77);
        bench.tick(1);
        Checks.due("replay", 2, bench.replay());
        Checks.due("steps", 5, bench.count(4));
        Checks.due("digest", digest, bench.digest());
        Checks.due("time", 1010, bench.time(4));
        Checks.due("set to the last ones", 3L, bench.set(0, 0));
        Checks.due("set to the last ones", 3L, bench.set(1, 0));
        Checks.due("time goes on", 2, bench.tick(5));
        Checks.due("time", 1015, bench.time(5));
    }

    private static void replayingUnderOthers() {
        PastWatch bench = Checks.bench("signal a = 1; signal b = 2; watch v: a < 4;");
        bench.set(0, 5);
        bench.tick(2);
        bench.set(1, 6);
        bench.set(0, 3);
        bench.tick(2);
        bench.keep();
        Checks.compile(bench, "signal z = 100; watch w: z = 3;");
        Checks.due("replay with fewer signals", 1, bench.replay());
        Checks.due("z", 5L, bench.signal(0, 0));
        Checks.due("z", 3L, bench.signal(0, 1));
        Checks.due("z is set to", 3L, bench.set(0, 3));
        Checks.compile(bench, "signal x = 10; signal y = 20; signal z = 30; watch w: z = 30;");
        bench.set(2, 31);
        Checks.due("replay with more signals", 2, bench.replay());
        Checks.due("y", 2L, bench.signal(1, 0));
        Checks.due("y", 6L, bench.signal(1, 1));
        Checks.due("z", 30L, bench.signal(2, 1));
        Checks.due("x is set to", 3L, bench.set(0, 0));
        Checks.due("y is set to", 6L, bench.set(1, 0));
        Checks.due("z is set to", 30L, bench.set(2, 0));
        Checks.compile(bench, "watch w: step = 1;");
        Checks.due("replay without signals", 1, bench.replay());
        Checks.due("keep without signals", 2, bench.keep());
        Checks.compile(bench, "signal x = 10; watch w: x = 10;");
        Checks.due("replay of times alone", 2, bench.replay());
        Checks.due("time", 4, bench.time(1));
        PastWatch empty = new PastWatch();
        Checks.refuses("replay without a program", STATE, () -> empty.replay());
    }

    private static void replayingNothing() {
        PastWatch bench = Checks.bench("signal a = 1; watch v: a < 4;");
        bench.set(0, 5);
        bench.tick(1);
        Checks.due("replay of nothing", 0, bench.replay());
        Checks.due("steps", 0, bench.count(4));
        Checks.due("set to the first value", 1L, bench.set(0, 0));
    }
}
