/** The sentences of promises 14 to 22 that name a boundary case: a test for each. */
final class ToldEdgesTest {
    private static final Class<?> STATE = IllegalStateException.class;
    private static final Class<?> ARGUMENT = IllegalArgumentException.class;
    private static final Class<?> BOUNDS = IndexOutOfBoundsException.class;
    private static final int[] FAR = {-1, Integer.MIN_VALUE, Integer.MAX_VALUE};
    /** What is no watch where there are four. */
    private static final int[] NO_WATCHES = {4, 11, 12, -1, Integer.MIN_VALUE, Integer.MAX_VALUE};

    /** A look at an item, at a step. */
    private interface Look {
        Object at(PastWatch bench, int item, int step);
    }

    public static void main(String[] args) {
        Checks.sentence("Promise 14", "Throws `IndexOutOfBoundsException` if there is no such signal or step", () -> {
            looks("signal s# = 4; ", 8, 4L, PastWatch::signal);
        });
        Checks.sentence("Promise 15", "Throws `IndexOutOfBoundsException` if there is no such value or step", () -> {
            looks("value v# = 6 - 2; ", 12, 4L, PastWatch::value);
        });
        Checks.sentence("Promise 16", "Throws `IndexOutOfBoundsException` if there is no such let or step", () -> {
            looks("let l# := 6 > 2; ", 12, true, PastWatch::let);
        });
        Checks.sentence("Promise 17", "Throws `IndexOutOfBoundsException` if there is no such watch or step", () -> {
            looks("watch x#: 6 < 2; ", 12, false, PastWatch::watch);
        });
        told();
        alarms();
        why();
        differ();
        share();
        Checks.end("ToldEdgesTest");
    }

    private static String items(String item, int many) {
        StringBuilder text = new StringBuilder();
        for (int i = 0; i < many; i++) {
            text.append(item.replace("#", "" + i));
        }
        return text.toString();
    }

    /** Items from none to as many as there can be, with steps from none to 120: what is there answers, what is not refuses. */
    private static void looks(String item, int most, Object want, Look look) {
        boolean isWatch = item.startsWith("watch");
        for (int many : new int[] {isWatch ? 1 : 0, 1, most}) {
            PastWatch bench = Checks.bench(items(item, many) + (isWatch ? "" : "watch w: true;"));
            for (int steps : new int[] {0, 1, 5, 120}) {
                while (bench.count(4) < steps) {
                    bench.tick(1);
                }
                look(bench, many, steps, want, look);
            }
            bench.back(2);
            look(bench, many, 2, want, look);
        }
        PastWatch empty = new PastWatch();
        Checks.refuses("a look without a program", BOUNDS, () -> look.at(empty, 0, 0));
        // A name of another sort is none of this one.
        PastWatch other = Checks.bench(isWatch ? "watch w: false;" : "watch a: true; watch b: true;");
        other.tick(0);
        Checks.refuses("a look at another sort", BOUNDS, () -> look.at(other, isWatch ? 1 : 0, 0));
    }

    private static void look(PastWatch bench, int many, int steps, Object want, Look look) {
        for (int item : many > 0 && steps > 0 ? new int[] {0, many - 1} : new int[0]) {
            Checks.due("a look at the first step", want, look.at(bench, item, 0));
            Checks.due("a look at the last step", want, look.at(bench, item, steps - 1));
        }
        Checks.refuses("a look behind the last item", BOUNDS, () -> look.at(bench, many, 0));
        Checks.refuses("a look behind the last step", BOUNDS, () -> look.at(bench, 0, steps));
        for (int far : FAR) {
            Checks.refuses("a look at the item " + far, BOUNDS, () -> look.at(bench, far, 0));
            Checks.refuses("a look at the step " + far, BOUNDS, () -> look.at(bench, 0, far));
        }
    }

    /** The watch 0 holds at the steps with 1, the watch 1 at the others, the watch 2 always, the watch 3 never. */
    private static PastWatch row(String signs) {
        PastWatch bench = Checks.bench("signal s = 0; watch a: s = 1; watch b: s = 0 level 0; watch c: true level 9; watch d: false level 4;");
        for (int step = 0; step < signs.length(); step++) {
            bench.set(0, signs.charAt(step) - '0');
            bench.tick(step);
        }
        return bench;
    }

    // ---- promise 18

    private static void told() {
        Checks.sentence("Promise 18", "0 its level (5, if none is told)", () -> {
            for (int level = 0; level <= 9; level++) {
                PastWatch bench = Checks.bench("watch a: true; watch b: true level " + level + "; watch c: true;");
                Checks.due("level of a", 5, bench.told(0, 0));
                Checks.due("level of b", level, bench.told(1, 0));
                Checks.due("level of c", 5, bench.told(2, 0));
                Checks.compile(bench, "watch a: true level 3; watch b: true;");
                Checks.due("level of a", 3, bench.told(0, 0));
                Checks.due("level of another b", 5, bench.told(1, 0));
            }
        });
        Checks.sentence("Promise 18", "1 at how many steps it does not hold", () -> {
            told("", 1, 0, 0, 0, 0);
            told("1", 1, 0, 1, 0, 1);
            told("0", 1, 1, 0, 0, 1);
            told("0110100", 1, 4, 3, 0, 7);
            told("0".repeat(120), 1, 120, 0, 0, 120);
        });
        Checks.sentence("Promise 18", "2 the first one of these, -1 if there is none", () -> {
            told("", 2, -1, -1, -1, -1);
            told("1", 2, -1, 0, -1, 0);
            told("0", 2, 0, -1, -1, 0);
            told("1101", 2, 2, 0, -1, 0);
            told("0010", 2, 0, 2, -1, 0);
            told("1".repeat(119) + "0", 2, 119, 0, -1, 0);
        });
        Checks.sentence("Promise 18", "3 the greatest number of steps, one behind the other, at which it does not hold", () -> {
            told("", 3, 0, 0, 0, 0);
            told("1", 3, 0, 1, 0, 1);
            told("0", 3, 1, 0, 0, 1);
            told("0010110", 3, 2, 2, 0, 7);
            told("0001100", 3, 3, 2, 0, 7);
            told("1001000", 3, 3, 1, 0, 7);
            told("0101010", 3, 1, 1, 0, 7);
            told("0".repeat(120), 3, 120, 0, 0, 120);
        });
        Checks.sentence("Promise 18", "4 how many of the last steps, one behind the other, it has not held", () -> {
            told("", 4, 0, 0, 0, 0);
            told("1", 4, 0, 1, 0, 1);
            told("0", 4, 1, 0, 0, 1);
            told("0001100", 4, 2, 0, 0, 7);
            told("0001101", 4, 0, 1, 0, 7);
            told("0".repeat(120), 4, 120, 0, 0, 120);
            PastWatch bench = row("0001100");
            bench.back(4);
            Checks.due("told behind back", 0, bench.told(0, 4));
            bench.back(3);
            Checks.due("told behind back", 3, bench.told(0, 4));
            bench.back(0);
            Checks.due("told behind back", 0, bench.told(0, 4));
        });
        Checks.sentence("Promise 18", "Throws `IndexOutOfBoundsException` if there is no such watch, or what is not 0 to 4", () -> {
            for (PastWatch bench : new PastWatch[] {row(""), row("010")}) {
                for (int what = 0; what <= 4; what++) {
                    int one = what;
                    Checks.refuses("told(4, " + what + ")", BOUNDS, () -> bench.told(4, one));
                    Checks.refuses("told(12, " + what + ")", BOUNDS, () -> bench.told(12, one));
                    for (int far : FAR) {
                        Checks.refuses("told(" + far + ", " + what + ")", BOUNDS, () -> bench.told(far, one));
                    }
                }
                Checks.refuses("told(3, 5)", BOUNDS, () -> bench.told(3, 5));
                for (int far : FAR) {
                    Checks.refuses("told(0, " + far + ")", BOUNDS, () -> bench.told(0, far));
                }
                Checks.due("told(3, 0)", 4, bench.told(3, 0));
            }
            PastWatch full = Checks.bench(items("watch x#: true; ", 12));
            Checks.due("told(11, 0)", 5, full.told(11, 0));
            Checks.refuses("told(12, 0)", BOUNDS, () -> full.told(12, 0));
        });
    }

    private static void told(String signs, int what, int... want) {
        PastWatch bench = row(signs);
        for (int watch = 0; watch < want.length; watch++) {
            Checks.due("told(" + watch + ", " + what + ") of " + signs, want[watch], bench.told(watch, what));
        }
    }

    // ---- promise 19

    private static void alarms() {
        Checks.sentence("Promise 19", "Returns how many watches of at least this level do not hold at the last step", () -> {
            PastWatch bench = Checks.bench(items("watch x#: false level #; ", 10) + "watch y: false; watch z: true level 9;");
            bench.tick(1);
            int[] want = {11, 10, 9, 8, 7, 6, 4, 3, 2, 1};
            for (int level = 0; level <= 9; level++) {
                Checks.due("alarms(" + level + ")", want[level], bench.alarms(level));
            }
            // The last step alone.
            PastWatch other = row("01");
            Checks.due("alarms at a step with 1", 2, other.alarms(0));
            Checks.due("alarms at a step with 1, of level 1", 1, other.alarms(1));
            other.back(1);
            Checks.due("alarms at a step with 0", 2, other.alarms(0));
            Checks.due("alarms at a step with 0, of level 5", 1, other.alarms(5));
            Checks.due("alarms at a step with 0, of level 6", 0, other.alarms(6));
        });
        Checks.sentence("Promise 19", "0 if there is none", () -> {
            PastWatch bench = row("0");
            bench.back(0);
            for (int level = 0; level <= 9; level++) {
                Checks.due("alarms of a new bench", 0, new PastWatch().alarms(level));
                Checks.due("alarms without steps", 0, row("").alarms(level));
                Checks.due("alarms behind back(0)", 0, bench.alarms(level));
            }
        });
        Checks.sentence("Promise 19", "Throws `IllegalArgumentException` if level is not 0 to 9", () -> {
            for (PastWatch bench : new PastWatch[] {new PastWatch(), row(""), row("0")}) {
                for (int level : new int[] {-1, 10, 11, Integer.MIN_VALUE, Integer.MAX_VALUE}) {
                    Checks.refuses("alarms(" + level + ")", ARGUMENT, () -> bench.alarms(level));
                }
                Checks.due("alarms(9)", 0, bench.alarms(9));
            }
        });
    }

    // ---- promise 20

    private static void why() {
        Checks.sentence("Promise 20", "Throws `IndexOutOfBoundsException` if there is no such watch or step", () -> {
            // The reason of a compare is at the step itself.
            looks("watch x#: 6 < 2; ", 12, 0, (bench, item, step) -> bench.why(item, step, true) - step);
            looks("watch x#: 6 < 2; ", 1, 10, (bench, item, step) -> bench.why(item, step, false));
        });
        Checks.sentence("Promise 20", "whether the step of its reason there is meant; otherwise the place, in the text of the program", () -> {
            PastWatch bench = Checks.bench("\n watch w: prev false;");
            bench.tick(1);
            bench.tick(1);
            Checks.due("step", 0, bench.why(0, 0, true));
            Checks.due("place", 11, bench.why(0, 0, false));
            Checks.due("step", 0, bench.why(0, 1, true));
            Checks.due("place", 16, bench.why(0, 1, false));
        });
        Checks.sentence("Promise 20", "Throws `IllegalStateException` if it holds there", () -> {
            PastWatch bench = row("0110");
            for (int step = 0; step < 4; step++) {
                int at = step;
                int holding = step == 1 || step == 2 ? 0 : 1;
                for (boolean isStep : new boolean[] {true, false}) {
                    Checks.refuses("why where it holds", STATE, () -> bench.why(holding, at, isStep));
                    Checks.refuses("why of what always holds", STATE, () -> bench.why(2, at, isStep));
                }
                Checks.due("why where it does not hold", step, bench.why(1 - holding, step, true));
            }
        });
    }

    // ---- promises 21 and 22

    private static void differ() {
        Checks.sentence("Promise 21", "Returns the first step at which one of them holds and the other one does not", () -> {
            Checks.due("differ at the first step", 0, row("0").differ(0, 1));
            Checks.due("differ at the second step", 1, row("10").differ(0, 2));
            Checks.due("differ the other way round", 1, row("10").differ(2, 0));
            Checks.due("differ twice", 2, row("11011").differ(0, 2));
            Checks.due("differ at the last of 120", 119, row("1".repeat(119) + "0").differ(0, 2));
        });
        Checks.sentence("Promise 21", "-1 if there is none", () -> {
            PastWatch bench = row("11011");
            Checks.due("differ of itself", -1, bench.differ(0, 0));
            Checks.due("differ without steps", -1, row("").differ(0, 1));
            Checks.due("differ of the same", -1, row("0000").differ(0, 3));
            bench.back(2);
            Checks.due("differ behind back", -1, bench.differ(0, 2));
        });
        Checks.sentence("Promise 21", "Throws `IndexOutOfBoundsException` if there is no such watch", () -> {
            for (PastWatch bench : new PastWatch[] {row(""), row("01")}) {
                for (int none : NO_WATCHES) {
                    Checks.refuses("differ(" + none + ", 0)", BOUNDS, () -> bench.differ(none, 0));
                    Checks.refuses("differ(0, " + none + ")", BOUNDS, () -> bench.differ(0, none));
                    Checks.refuses("differ of none with itself", BOUNDS, () -> bench.differ(none, none));
                }
            }
            PastWatch empty = new PastWatch();
            Checks.refuses("differ without a program", BOUNDS, () -> empty.differ(0, 0));
            Checks.due("differ of twelve", -1, Checks.bench(items("watch x#: true; ", 12)).differ(11, 0));
        });
    }

    private static void share() {
        Checks.sentence("Promise 22", "Returns the part of the steps at which it holds", () -> {
            PastWatch bench = row("0110100");
            Checks.due("share", 3.0 / 7.0, bench.share(0));
            Checks.due("share", 4.0 / 7.0, bench.share(1));
            Checks.due("share of all", 1.0, bench.share(2));
            Checks.due("share of none", 0.0, bench.share(3));
            Checks.due("share of one step", 0.0, row("0").share(0));
            Checks.due("share of one step", 1.0, row("1").share(0));
            Checks.due("share of 120 steps", 119.0 / 120.0, row("1".repeat(119) + "0").share(0));
            bench.back(3);
            Checks.due("share behind back", 2.0 / 3.0, bench.share(0));
        });
        Checks.sentence("Promise 22", "1 if there are none", () -> {
            PastWatch bench = row("0");
            bench.back(0);
            for (int watch = 0; watch < 4; watch++) {
                Checks.due("share without steps", 1.0, row("").share(watch));
                Checks.due("share behind back(0)", 1.0, bench.share(watch));
            }
        });
        Checks.sentence("Promise 22", "Throws `IndexOutOfBoundsException` if there is no such watch", () -> {
            for (PastWatch bench : new PastWatch[] {row(""), row("01")}) {
                for (int none : NO_WATCHES) {
                    Checks.refuses("share(" + none + ")", BOUNDS, () -> bench.share(none));
                }
            }
            PastWatch empty = new PastWatch();
            Checks.refuses("share without a program", BOUNDS, () -> empty.share(0));
            Checks.due("share of the twelfth", 1.0, Checks.bench(items("watch x#: true; ", 12)).share(11));
        });
    }
}
