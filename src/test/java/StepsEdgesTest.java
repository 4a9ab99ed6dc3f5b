/** The sentences of promises 7 to 13 that name a boundary case: a test for each. */
final class StepsEdgesTest {
    private static final Class<?> STATE = IllegalStateException.class;
    private static final Class<?> ARGUMENT = IllegalArgumentException.class;
    private static final Class<?> BOUNDS = IndexOutOfBoundsException.class;
    private static final int[] FAR = {-1, Integer.MIN_VALUE, Integer.MAX_VALUE};

    public static void main(String[] args) {
        set();
        tick();
        back();
        restart();
        keep();
        replay();
        time();
        Checks.end("StepsEdgesTest");
    }

    private static String signals(int many) {
        StringBuilder text = new StringBuilder();
        for (int i = 0; i < many; i++) {
            text.append("signal s" + i + " = " + (i + 1) + "; ");
        }
        return text.toString();
    }

    private static PastWatch steps(String program, int... more) {
        PastWatch bench = Checks.bench(program);
        for (int one : more) {
            bench.tick(one);
        }
        return bench;
    }

    // ---- promise 7

    private static void set() {
        Checks.sentence("Promise 7", "Sets a signal, from the next step on", () -> {
            PastWatch bench = steps("signal s = 1; signal t = 2; watch w: s = 1;", 0);
            bench.set(0, 5);
            Checks.due("the step ahead", 1L, bench.signal(0, 0));
            Checks.due("the watch ahead", true, bench.watch(0, 0));
            bench.tick(0);
            bench.tick(0);
            Checks.due("the next step", 5L, bench.signal(0, 1));
            Checks.due("the step behind it", 5L, bench.signal(0, 2));
            Checks.due("the other signal", 2L, bench.signal(1, 2));
            bench.set(0, 6);
            bench.set(0, 7);
            bench.tick(0);
            Checks.due("the latest of two", 7L, bench.signal(0, 3));
        });
        Checks.sentence("Promise 7", "Returns what it was set to before", () -> {
            PastWatch bench = Checks.bench("signal s = -999999; signal t = 2; watch w: true;");
            long[] values = {-999999, 0, Long.MAX_VALUE, Long.MIN_VALUE, -1, 0x100000000L, 7};
            for (int i = 1; i < values.length; i++) {
                Checks.due("set", values[i - 1], bench.set(0, values[i]));
            }
            Checks.due("set of the other", 2L, bench.set(1, 3));
            bench.tick(0);
            Checks.due("set behind a step", 7L, bench.set(0, 7));
            Checks.due("set to the same", 7L, bench.set(0, 8));
        });
        Checks.sentence("Promise 7", "Throws `IndexOutOfBoundsException` if there is no such signal", () -> {
            for (int many = 0; many <= 8; many++) {
                PastWatch bench = Checks.bench(signals(many) + "watch w: true;");
                for (int i = 0; i < many; i++) {
                    Checks.due("set(" + i + ")", i + 1L, bench.set(i, 9));
                }
                int none = many;
                Checks.refuses("set(" + none + ")", BOUNDS, () -> bench.set(none, 9));
                for (int far : FAR) {
                    Checks.refuses("set(" + far + ")", BOUNDS, () -> bench.set(far, 9));
                }
            }
            PastWatch empty = new PastWatch();
            Checks.refuses("set without a program", BOUNDS, () -> empty.set(0, 9));
        });
    }

    // ---- promise 8

    private static void tick() {
        Checks.sentence("Promise 8", "its time is that of the step ahead (0 for the first one) and so much more", () -> {
            PastWatch bench = steps("watch w: true;", 0, 0, 1000, 1, 0, 999);
            int[] want = {0, 0, 1000, 1001, 1001, 2000};
            for (int step = 0; step < want.length; step++) {
                Checks.due("time", want[step], bench.time(step));
            }
            Checks.due("time of a first step", 1000, steps("watch w: true;", 1000).time(0));
            bench.back(0);
            bench.tick(7);
            Checks.due("time of a first step, behind back", 7, bench.time(0));
        });
        Checks.sentence("Promise 8", "the signals have what they are set to (their first values, if they were not set since the program was begun)", () -> {
            PastWatch bench = Checks.bench(signals(8) + "watch w: true;");
            bench.set(3, 40);
            bench.tick(0);
            for (int signal = 0; signal < 8; signal++) {
                Checks.due("signal", signal == 3 ? 40L : signal + 1L, bench.signal(signal, 0));
            }
            bench.restart();
            bench.tick(0);
            Checks.due("signal behind restart", 4L, bench.signal(3, 0));
            bench.set(3, 41);
            Checks.compile(bench, signals(8) + "watch w: true;");
            bench.tick(0);
            Checks.due("signal behind compile", 4L, bench.signal(3, 0));
        });
        Checks.sentence("Promise 8", "Returns how many watches do not hold there", () -> {
            StringBuilder text = new StringBuilder("signal s = 0; ");
            for (int i = 0; i < 12; i++) {
                text.append("watch w" + i + ": s <= " + i + "; ");
            }
            PastWatch bench = Checks.bench(text.toString());
            for (int value = 0; value <= 12; value++) {
                bench.set(0, value);
                Checks.due("tick", value, bench.tick(0));
            }
            bench.set(0, 0);
            Checks.due("tick", 0, bench.tick(0));
            // Of any level.
            Checks.due("tick", 3, Checks.bench("watch u: false level 0; watch v: false level 1; watch w: false level 9;").tick(0));
        });
        Checks.sentence("Promise 8", "Throws `IllegalArgumentException` if more is not 0 to 1000", () -> {
            PastWatch bench = Checks.bench("watch w: true;");
            for (int more : new int[] {-1, 1001, 1002, Integer.MIN_VALUE, Integer.MAX_VALUE}) {
                Checks.refuses("tick(" + more + ")", ARGUMENT, () -> bench.tick(more));
            }
            Checks.due("steps", 0, bench.count(4));
            Checks.due("tick(0)", 0, bench.tick(0));
            Checks.due("tick(1000)", 0, bench.tick(1000));
            Checks.due("steps", 2, bench.count(4));
        });
        Checks.sentence("Promise 8", "Throws `IllegalStateException` if there is no program, or there are 120 steps", StepsEdgesTest::noTick);
    }

    private static void noTick() {
        PastWatch empty = new PastWatch();
        Checks.refuses("tick of a new bench", STATE, () -> empty.tick(0));
        Checks.compile(empty, "watch w: true");
        Checks.refuses("tick behind an error", STATE, () -> empty.tick(1000));
        PastWatch bench = Checks.bench("watch w: step < 119;");
        for (int step = 0; step < 120; step++) {
            Checks.due("tick", step < 119 ? 0 : 1, bench.tick(1));
        }
        Checks.refuses("a 121st tick", STATE, () -> bench.tick(0));
        Checks.refuses("a 121st tick", STATE, () -> bench.tick(1000));
        Checks.due("steps", 120, bench.count(4));
        bench.back(119);
        Checks.due("tick behind back", 1, bench.tick(1));
        Checks.refuses("a 121st tick", STATE, () -> bench.tick(0));
        bench.keep();
        bench.replay();
        Checks.refuses("a tick behind the replay of 120", STATE, () -> bench.tick(0));
        bench.restart();
        Checks.due("tick behind restart", 0, bench.tick(0));
    }

    // ---- promise 9

    private static void back() {
        Checks.sentence("Promise 9", "Takes steps back", () -> {
            String program = "signal s = 1; value v = sum s; value m = max s; value o = old s; value c = count{s = 9}; value l = last{s = 9}; value a = at{s = 9} s; "
                + "watch a1: once s = 9; watch a2: always s < 9; watch a3: true since s = 9; watch a4: prev s = 9; watch a5: rise s = 9;";
            PastWatch bench = steps(program, 3, 4);
            bench.set(0, 9);
            bench.tick(5);
            bench.tick(6);
            bench.back(2);
            bench.set(0, 2);
            bench.tick(1);
            PastWatch other = steps(program, 3, 4);
            other.set(0, 2);
            other.tick(1);
            Checks.due("all as if the steps had not been", Story.of(other), Story.of(bench));
        });
        Checks.sentence("Promise 9", "What the signals are set to stays", () -> {
            PastWatch bench = steps("signal s = 1; signal t = 2; watch w: true;", 3);
            bench.set(0, 9);
            bench.tick(5);
            bench.back(0);
            Checks.due("set", 9L, bench.set(0, 10));
            bench.tick(1);
            Checks.due("signal", 10L, bench.signal(0, 0));
            bench.set(1, 4);
            bench.back(1);
            bench.tick(1);
            Checks.due("signal set ahead of back", 4L, bench.signal(1, 1));
            Checks.due("signal of the step that is left", 2L, bench.signal(1, 0));
        });
        Checks.sentence("Promise 9", "how many steps are left", () -> {
            for (int left = 0; left <= 4; left++) {
                PastWatch bench = steps("watch w: true;", 1, 2, 3, 4);
                bench.back(left);
                Checks.due("steps", left, bench.count(4));
                int none = left;
                Checks.refuses("time(" + left + ")", BOUNDS, () -> bench.time(none));
            }
        });
        Checks.sentence("Promise 9", "Returns the time of the last one; 0 if there is none", () -> {
            int[] times = {0, 1, 3, 6, 1006};
            for (int left = 4; left >= 0; left--) {
                Checks.due("back(" + left + ")", times[left], steps("watch w: true;", 1, 2, 3, 1000).back(left));
            }
            Checks.due("back without a program", 0, new PastWatch().back(0));
            Checks.due("back without steps", 0, steps("watch w: true;").back(0));
            Checks.due("back to a step at 0", 0, steps("watch w: true;", 0, 5).back(1));
        });
        Checks.sentence("Promise 9", "Throws `IllegalArgumentException` if steps is not 0 to the number of steps", () -> {
            for (int many = 0; many <= 3; many++) {
                PastWatch bench = steps("watch w: true;", new int[many]);
                int above = many + 1;
                Checks.refuses("back(" + above + ") of " + many, ARGUMENT, () -> bench.back(above));
                for (int far : FAR) {
                    Checks.refuses("back(" + far + ") of " + many, ARGUMENT, () -> bench.back(far));
                }
                Checks.due("steps", many, bench.count(4));
                Checks.due("back to all", 0, bench.back(many));
            }
            PastWatch empty = new PastWatch();
            Checks.refuses("back(1) without a program", ARGUMENT, () -> empty.back(1));
            PastWatch full = steps("watch w: true;", new int[120]);
            Checks.refuses("back(121)", ARGUMENT, () -> full.back(121));
            Checks.due("back(120)", 0, full.back(120));
            Checks.due("back(3)", 0, full.back(3));
            Checks.refuses("back(4) behind back(3)", ARGUMENT, () -> full.back(4));
        });
    }

    // ---- promise 10

    private static void restart() {
        Checks.sentence("Promise 10", "Begins the program anew: without steps, the signals are set to their first values", () -> {
            PastWatch bench = steps(signals(8) + "watch w: s0 = 1;", 5, 6);
            for (int signal = 0; signal < 8; signal++) {
                bench.set(signal, -9);
            }
            bench.tick(7);
            bench.restart();
            Checks.due("steps", 0, bench.count(4));
            Checks.refuses("time", BOUNDS, () -> bench.time(0));
            Checks.due("tick", 0, bench.tick(2));
            Checks.due("time", 2, bench.time(0));
            for (int signal = 0; signal < 8; signal++) {
                Checks.due("signal", signal + 1L, bench.signal(signal, 0));
                Checks.due("set", signal + 1L, bench.set(signal, 0));
            }
        });
        Checks.sentence("Promise 10", "Returns the number of watches", () -> {
            StringBuilder text = new StringBuilder();
            for (int many = 1; many <= 12; many++) {
                text.append("watch w" + many + ": true; ");
                Checks.due("restart", many, Checks.bench(text.toString()).restart());
            }
        });
        Checks.sentence("Promise 10", "Throws `IllegalStateException` if there is no program", () -> {
            PastWatch bench = new PastWatch();
            Checks.refuses("restart of a new bench", STATE, () -> bench.restart());
            Checks.compile(bench, "watch w: true;");
            Checks.due("restart", 1, bench.restart());
            Checks.compile(bench, "watch w: is x;");
            Checks.refuses("restart behind an error", STATE, () -> bench.restart());
        });
    }

    // ---- promise 11

    private static void keep() {
        Checks.sentence("Promise 11", "Keeps the times of all steps, and the values of all signals at them", () -> {
            PastWatch bench = Checks.bench(signals(8) + "watch w: true;");
            for (int step = 0; step < 40; step++) {
                for (int signal = 0; signal < 8; signal++) {
                    bench.set(signal, (step * 8L + signal) << 33);
                }
                bench.tick(step % 7);
            }
            Checks.due("keep", 40, bench.keep());
            long digest = bench.digest();
            Checks.due("replay", 40, bench.replay());
            Checks.due("all is as it was", digest, bench.digest());
        });
        Checks.sentence("Promise 11", "in the place of what is kept", () -> {
            PastWatch bench = steps("signal s = 1; watch w: true;", 1, 2, 3);
            bench.keep();
            bench.back(1);
            Checks.due("kept", 3, bench.count(5));
            bench.set(0, 8);
            bench.tick(50);
            Checks.due("keep", 2, bench.keep());
            Checks.due("kept", 2, bench.count(5));
            bench.tick(60);
            Checks.due("replay", 2, bench.replay());
            Checks.due("time", 51, bench.time(1));
            Checks.due("signal", 8L, bench.signal(0, 1));
            bench.restart();
            Checks.due("keep of nothing", 0, bench.keep());
            bench.tick(1);
            Checks.due("replay of nothing", 0, bench.replay());
        });
        Checks.sentence("Promise 11", "Returns the number of steps", () -> {
            Checks.due("keep without a program", 0, new PastWatch().keep());
            Checks.due("keep without steps", 0, steps("watch w: true;").keep());
            Checks.due("keep", 1, steps("watch w: true;", 1).keep());
            PastWatch full = steps("watch w: true;", new int[120]);
            Checks.due("keep of 120", 120, full.keep());
            full.back(5);
            Checks.due("keep of 5", 5, full.keep());
            Checks.compile(full, "watch");
            Checks.due("keep behind an error", 0, full.keep());
            Checks.due("kept", 0, full.count(5));
        });
    }

    // ---- promise 12

    private static void replay() {
        Checks.sentence("Promise 12", "Begins the program anew, and does all steps that are kept, at their times", () -> {
            PastWatch bench = steps("value v = sum time; watch w: true;", 1000, 0, 7);
            bench.keep();
            bench.tick(1);
            bench.replay();
            Checks.due("steps", 3, bench.count(4));
            int[] times = {1000, 1000, 1007};
            long[] sums = {1000, 2000, 3007};
            for (int step = 0; step < 3; step++) {
                Checks.due("time", times[step], bench.time(step));
                Checks.due("sum", sums[step], bench.value(0, step));
            }
            // Whatever steps were done since then.
            bench.restart();
            bench.tick(3);
            bench.tick(3);
            bench.tick(3);
            bench.tick(3);
            bench.replay();
            Checks.due("steps", 3, bench.count(4));
            for (int step = 0; step < 3; step++) {
                Checks.due("time", times[step], bench.time(step));
            }
            Checks.compile(bench, "signal s = 4; watch w: true;");
            bench.set(0, 5);
            bench.keep();
            bench.tick(1);
            Checks.due("replay of nothing", 0, bench.replay());
            Checks.due("steps", 0, bench.count(4));
            Checks.due("the first value", 4L, bench.set(0, 5));
        });
        Checks.sentence("Promise 12", "Returns at how many of these steps all watches hold", () -> {
            PastWatch bench = steps("signal s = 0; watch w: true;");
            for (int value = 0; value < 6; value++) {
                bench.set(0, value);
                bench.tick(1);
            }
            bench.keep();
            Checks.due("all", 6, bench.replay());
            Checks.compile(bench, "signal s = 0; watch v: s < 4; watch w: s > 0;");
            Checks.due("some", 3, bench.replay());
            Checks.compile(bench, "signal s = 0; watch v: s < 3; watch w: s > 2;");
            Checks.due("none", 0, bench.replay());
            Checks.compile(bench, "signal s = 0; watch v: s < 5 level 0; watch w: s > 0 level 9;");
            Checks.due("those of any level", 4, bench.replay());
        });
        Checks.sentence("Promise 12", "the signals with the numbers of those that were kept have their values, others their first ones", StepsEdgesTest::otherSignals);
        Checks.sentence("Promise 12", "Behind it the signals are set to what they had at the last one of these steps", () -> {
            PastWatch bench = Checks.bench("signal s = 1; signal t = 2; watch w: true;");
            bench.set(0, 8);
            bench.tick(0);
            bench.set(0, 9);
            bench.tick(0);
            bench.keep();
            bench.set(0, 10);
            bench.set(1, 11);
            bench.replay();
            bench.tick(0);
            Checks.due("signal", 9L, bench.signal(0, 2));
            Checks.due("signal", 2L, bench.signal(1, 2));
            Checks.due("set", 9L, bench.set(0, 0));
            Checks.due("set", 2L, bench.set(1, 0));
        });
        Checks.sentence("Promise 12", "Throws `IllegalStateException` if there is no program", () -> {
            PastWatch bench = new PastWatch();
            Checks.refuses("replay of a new bench", STATE, () -> bench.replay());
            Checks.compile(bench, "watch w: true;");
            Checks.due("replay of nothing", 0, bench.replay());
            bench.tick(3);
            bench.keep();
            Checks.compile(bench, "watch w: is x;");
            Checks.refuses("replay behind an error", STATE, () -> bench.replay());
            Checks.compile(bench, "watch w: true;");
            Checks.due("replay of what stayed", 1, bench.replay());
        });
    }

    private static void otherSignals() {
        for (int kept = 0; kept <= 8; kept += 2) {
            PastWatch bench = Checks.bench(signals(kept) + "watch w: true;");
            for (int signal = 0; signal < kept; signal++) {
                bench.set(signal, 100 + signal);
            }
            bench.tick(1);
            bench.keep();
            for (int many = 0; many <= 8; many += 4) {
                Checks.due("compile", 0, Checks.compile(bench, signals(many) + "watch w: true;"));
                for (int signal = 0; signal < many; signal++) {
                    bench.set(signal, -1);
                }
                bench.replay();
                for (int signal = 0; signal < many; signal++) {
                    long want = signal < kept ? 100 + signal : signal + 1;
                    Checks.due("signal " + signal + " of " + many + ", " + kept + " were kept", want, bench.signal(signal, 0));
                    Checks.due("set", want, bench.set(signal, 0));
                }
            }
        }
    }

    // ---- promise 13

    private static void time() {
        Checks.sentence("Promise 13", "Returns its time", () -> {
            PastWatch bench = steps("watch w: true;", 1000, 0, 999);
            Checks.due("time of the first step", 1000, bench.time(0));
            Checks.due("time of a step at the same time", 1000, bench.time(1));
            Checks.due("time of the last step", 1999, bench.time(2));
        });
        Checks.sentence("Promise 13", "Throws `IndexOutOfBoundsException` if there is no such step", () -> {
            for (int many = 0; many <= 3; many++) {
                PastWatch bench = steps("watch w: true;", new int[many]);
                int none = many;
                Checks.refuses("time(" + many + ")", BOUNDS, () -> bench.time(none));
                for (int far : FAR) {
                    Checks.refuses("time(" + far + ")", BOUNDS, () -> bench.time(far));
                }
                for (int step = 0; step < many; step++) {
                    Checks.due("time", 0, bench.time(step));
                }
            }
            PastWatch full = steps("watch w: true;", new int[120]);
            Checks.due("time(119)", 0, full.time(119));
            Checks.refuses("time(120)", BOUNDS, () -> full.time(120));
            full.back(3);
            Checks.refuses("time(3) behind back(3)", BOUNDS, () -> full.time(3));
            full.restart();
            Checks.refuses("time(0) behind restart", BOUNDS, () -> full.time(0));
        });
    }
}
