/** The sentences of promises 1 to 6 that name a boundary case: a test for each. */
final class ProgramsEdgesTest {
    private static final Class<?> STATE = IllegalStateException.class;
    private static final Class<?> ARGUMENT = IllegalArgumentException.class;
    private static final Class<?> BOUNDS = IndexOutOfBoundsException.class;

    public static void main(String[] args) {
        newObject();
        feed();
        trim();
        compile();
        Checks.sentence("Promise 5", "Returns the position of the error of the latest compile or ask", ProgramsEdgesTest::placeOfLatest);
        Checks.sentence("Promise 5", "-1 if it had none, or there was none", ProgramsEdgesTest::placeOfNone);
        Checks.sentence("Promise 6", "0 signals, 1 lets, 2 values, 3 watches, 4 steps, 5 kept steps, 6 bytes of the tape", ProgramsEdgesTest::counts);
        Checks.sentence("Promise 6", "Throws `IndexOutOfBoundsException` if what is not 0 to 6", () -> {
            for (PastWatch bench : new PastWatch[] {new PastWatch(), Checks.bench("watch w: true;")}) {
                for (int what : new int[] {-1, 7, 8, Integer.MIN_VALUE, Integer.MAX_VALUE}) {
                    Checks.refuses("count(" + what + ")", BOUNDS, () -> bench.count(what));
                }
                Checks.due("count(0)", 0, bench.count(0));
                Checks.due("count(6)", 0, bench.count(6));
            }
        });
        Checks.end("ProgramsEdgesTest");
    }

    // ---- promise 1

    private static void newObject() {
        Checks.sentence("Promise 1", "Creates a bench without a program, with an empty tape", () -> {
            PastWatch bench = new PastWatch();
            for (int what = 0; what <= 6; what++) {
                Checks.due("count(" + what + ")", 0, bench.count(what));
            }
            Checks.due("errorAt", -1, bench.errorAt());
            Checks.due("back(0)", 0, bench.back(0));
            Checks.due("alarms(0)", 0, bench.alarms(0));
            Checks.due("alarms(9)", 0, bench.alarms(9));
            Checks.due("keep", 0, bench.keep());
            Checks.due("trim(0)", 0, bench.trim(0));
            Checks.refuses("trim(1)", ARGUMENT, () -> bench.trim(1));
            Checks.refuses("back(1)", ARGUMENT, () -> bench.back(1));
            Checks.refuses("tick", STATE, () -> bench.tick(0));
            Checks.refuses("restart", STATE, () -> bench.restart());
            Checks.refuses("replay", STATE, () -> bench.replay());
            nothingIsTold(bench);
            Checks.askError(bench, "is w", 2, 3);
            Checks.askError(bench, "s = 1", 2, 0);
            Checks.askError(bench, "1 = 1", 0, -1);
        });
    }

    private static void nothingIsTold(PastWatch bench) {
        Checks.refuses("set", BOUNDS, () -> bench.set(0, 1));
        Checks.refuses("time", BOUNDS, () -> bench.time(0));
        Checks.refuses("signal", BOUNDS, () -> bench.signal(0, 0));
        Checks.refuses("value", BOUNDS, () -> bench.value(0, 0));
        Checks.refuses("let", BOUNDS, () -> bench.let(0, 0));
        Checks.refuses("watch", BOUNDS, () -> bench.watch(0, 0));
        Checks.refuses("told", BOUNDS, () -> bench.told(0, 0));
        Checks.refuses("why", BOUNDS, () -> bench.why(0, 0, true));
        Checks.refuses("differ", BOUNDS, () -> bench.differ(0, 0));
        Checks.refuses("share", BOUNDS, () -> bench.share(0));
        Checks.refuses("answer", BOUNDS, () -> bench.answer(0));
    }

    // ---- promise 2

    private static void feed() {
        Checks.sentence("Promise 2", "Appends twenty bytes to the tape: the four bytes of each number, the highest one first", ProgramsEdgesTest::bytesOfFeed);
        Checks.sentence("Promise 2", "Returns the number of bytes of the tape", () -> {
            PastWatch bench = new PastWatch();
            for (int bytes = 20; bytes <= 1800; bytes += 20) {
                Checks.due("feed", bytes, bench.feed(bytes, -1, 0, Integer.MIN_VALUE, Integer.MAX_VALUE));
                Checks.due("count(6)", bytes, bench.count(6));
            }
            bench.trim(7);
            Checks.due("feed behind seven bytes", 27, bench.feed(0, 0, 0, 0, 0));
        });
        Checks.sentence("Promise 2", "Throws `IllegalStateException` if there would be more than 1800", ProgramsEdgesTest::fullTape);
    }

    /** Twenty bytes with an odd one among blanks: the error tells where it went. */
    private static void bytesOfFeed() {
        for (int odd : new int[] {'?', 0, 1, 127, 128, 255}) {
            for (int place = 0; place < 20; place++) {
                int[] five = {0x20202020, 0x20202020, 0x20202020, 0x20202020, 0x20202020};
                int shift = 24 - 8 * (place % 4);
                five[place / 4] = five[place / 4] & ~(255 << shift) | odd << shift;
                PastWatch bench = new PastWatch();
                bench.feed(five[0], five[1], five[2], five[3], five[4]);
                Checks.due("compile of the byte " + odd, 1, bench.compile());
                Checks.due("its place", place, bench.errorAt());
            }
        }
        PastWatch bench = new PastWatch();
        bench.feed(0x77617463, 0x6820773a, 0x20747275, 0x653b2020, 0x20202020);
        bench.feed(0x77617463, 0x6820783a, 0x20747275, 0x653b2020, 0x20202020);
        Checks.due("compile of two feeds", 0, bench.compile());
        Checks.due("watches", 2, bench.count(3));
    }

    private static void fullTape() {
        for (int bytes : new int[] {1781, 1782, 1790, 1799, 1800}) {
            PastWatch bench = tapeOf(bytes);
            Checks.refuses("feed at " + bytes, STATE, () -> bench.feed(0, 0, 0, 0, 0));
            Checks.due("bytes", bytes, bench.count(6));
            Checks.due("nothing was appended", 0, bench.compile());
        }
        for (int bytes : new int[] {1779, 1780}) {
            PastWatch bench = tapeOf(bytes);
            Checks.due("feed at " + bytes, bytes + 20, bench.feed(0x20202020, 0x20202020, 0x20202020, 0x20202020, 0x2020203f));
            Checks.due("compile", 1, bench.compile());
            Checks.due("errorAt", bytes + 19, bench.errorAt());
        }
        // Behind compile, ask and trim there is room again.
        PastWatch bench = tapeOf(1800);
        bench.compile();
        Checks.due("feed behind compile", 20, bench.feed(0, 0, 0, 0, 0));
        bench.ask();
        Checks.due("feed behind ask", 20, bench.feed(0, 0, 0, 0, 0));
    }

    /** A right program, and so many bytes. */
    private static PastWatch tapeOf(int bytes) {
        PastWatch bench = new PastWatch();
        Checks.type(bench, "watch w: true;" + " ".repeat(bytes - 14));
        return bench;
    }

    // ---- promise 3

    private static void trim() {
        Checks.sentence("Promise 3", "Shortens the tape to its first bytes", () -> {
            for (int n = 0; n <= 29; n++) {
                PastWatch bench = new PastWatch();
                Checks.type(bench, "watch w: true; watch v: true;");
                Checks.due("trim", n, bench.trim(n));
                Checks.due("bytes", n, bench.count(6));
                boolean isRight = n == 14 || n == 15 || n == 29;
                // A part of "watch" is a name, with which no item begins.
                int place = n < 5 ? 0 : n > 15 && n < 20 ? 15 : n;
                Checks.due("compile of " + n, isRight ? 0 : 1, bench.compile());
                Checks.due("errorAt of " + n, isRight ? -1 : place, bench.errorAt());
            }
        });
        Checks.sentence("Promise 3", "Throws `IllegalArgumentException` if n is not 0 to the number of bytes of the tape", () -> {
            PastWatch bench = new PastWatch();
            Checks.due("trim(0) of nothing", 0, bench.trim(0));
            for (int n : new int[] {-1, 1, 20, Integer.MIN_VALUE, Integer.MAX_VALUE}) {
                Checks.refuses("trim(" + n + ") of nothing", ARGUMENT, () -> bench.trim(n));
            }
            bench.feed(0, 0, 0, 0, 0);
            for (int n : new int[] {-1, 21, 1800, Integer.MIN_VALUE, Integer.MAX_VALUE}) {
                Checks.refuses("trim(" + n + ") of 20", ARGUMENT, () -> bench.trim(n));
            }
            Checks.due("trim(20) of 20", 20, bench.trim(20));
            Checks.due("trim(19) of 20", 19, bench.trim(19));
            Checks.refuses("trim(20) of 19", ARGUMENT, () -> bench.trim(20));
            Checks.due("trim(0)", 0, bench.trim(0));
            Checks.refuses("trim(1) of 0", ARGUMENT, () -> bench.trim(1));
            PastWatch full = tapeOf(1800);
            Checks.refuses("trim(1801)", ARGUMENT, () -> full.trim(1801));
            Checks.due("trim(1800)", 1800, full.trim(1800));
        });
    }

    // ---- promise 4

    private static PastWatch stepped() {
        PastWatch bench = Checks.bench("signal s = 4; let l := s = 4; value v = s; watch w: is l level 8;");
        bench.set(0, 7);
        bench.tick(3);
        bench.tick(3);
        bench.keep();
        bench.tick(3);
        Checks.ask(bench, "is l");
        return bench;
    }

    private static void compile() {
        Checks.sentence("Promise 4", "Compiles the tape as a program, without steps", () -> {
            PastWatch bench = stepped();
            Checks.due("compile", 0, Checks.compile(bench, "signal s = 4; watch w: s = 4;"));
            Checks.due("steps", 0, bench.count(4));
            Checks.refuses("time", BOUNDS, () -> bench.time(0));
            Checks.due("alarms", 0, bench.alarms(0));
            Checks.due("told", 0, bench.told(0, 1));
            Checks.due("share", 1.0, bench.share(0));
            Checks.due("tick", 0, bench.tick(2));
            Checks.due("time", 2, bench.time(0));
            Checks.due("signal", 4L, bench.signal(0, 0));
        });
        Checks.sentence("Promise 4", "The program that was there is gone in any case", () -> {
            for (String text : new String[] {"", "?", "watch w: is x;", "watch w: true; watch w: true;", "watch w: true level 10;", "let l := true;"}) {
                PastWatch bench = stepped();
                Checks.due("an error in " + text, true, Checks.compile(bench, text) > 0);
                for (int what = 0; what <= 4; what++) {
                    Checks.due("count(" + what + ")", 0, bench.count(what));
                }
                Checks.refuses("tick", STATE, () -> bench.tick(0));
                Checks.refuses("restart", STATE, () -> bench.restart());
                Checks.refuses("replay", STATE, () -> bench.replay());
                nothingIsTold(bench);
                Checks.askError(bench, "is w", 2, 3);
            }
            PastWatch bench = stepped();
            Checks.due("compile of another", 0, Checks.compile(bench, "watch other: true;"));
            Checks.due("signals", 0, bench.count(0));
            Checks.due("level", 5, bench.told(0, 0));
            Checks.askError(bench, "is w", 2, 3);
            Checks.askError(bench, "s = 4", 2, 0);
        });
        Checks.sentence("Promise 4", "what was kept stays", () -> {
            PastWatch bench = stepped();
            Checks.compile(bench, "?");
            Checks.due("kept behind an error", 2, bench.count(5));
            Checks.compile(bench, "signal x = 1; watch w: x = 7;");
            Checks.due("kept", 2, bench.count(5));
            Checks.due("replay", 2, bench.replay());
            Checks.due("time", 6, bench.time(1));
        });
        Checks.sentence("Promise 4", "Returns 0, or the error, 1 to 6", () -> {
            String nine = "signal a=1;signal b=1;signal c=1;signal d=1;signal e=1;signal f=1;signal g=1;signal h=1;signal i=1;";
            String[] texts = {"watch w: true;", "watch w: true", "watch w: is x;", "watch w: true; let w := true;", nine + "watch w: true;",
                "watch w: true level 10;", "let l := true;"};
            PastWatch bench = new PastWatch();
            for (int error = 0; error <= 6; error++) {
                Checks.due("compile " + texts[error], error, Checks.compile(bench, texts[error]));
            }
        });
    }

    // ---- promises 5 and 6

    private static void placeOfLatest() {
        PastWatch bench = new PastWatch();
        Checks.due("compile", 1, Checks.compile(bench, "watch w: true"));
        Checks.due("errorAt", 13, bench.errorAt());
        Checks.due("errorAt once more", 13, bench.errorAt());
        Checks.type(bench, "true # ");
        Checks.due("errorAt behind feed", 13, bench.errorAt());
        Checks.due("ask", 1, bench.ask());
        Checks.due("errorAt of ask", 5, bench.errorAt());
        Checks.due("compile", 6, Checks.compile(bench, "let l := true; "));
        Checks.due("errorAt of compile", 15, bench.errorAt());
        Checks.due("compile of nothing", 1, bench.compile());
        Checks.due("an error at the beginning", 0, bench.errorAt());
    }

    private static void placeOfNone() {
        PastWatch bench = new PastWatch();
        Checks.due("there was none", -1, bench.errorAt());
        Checks.type(bench, "?");
        Checks.due("none yet", -1, bench.errorAt());
        bench.compile();
        Checks.due("an error", 0, bench.errorAt());
        Checks.compile(bench, "watch w: true;");
        Checks.due("compile without an error", -1, bench.errorAt());
        Checks.ask(bench, "is x");
        Checks.due("an error of ask", 3, bench.errorAt());
        Checks.ask(bench, "is w");
        Checks.due("ask without an error", -1, bench.errorAt());
        Checks.ask(bench, "is");
        Checks.compile(bench, "watch w: true;");
        Checks.due("compile without an error, behind an ask with one", -1, bench.errorAt());
        Checks.compile(bench, "watch");
        Checks.ask(bench, "true");
        Checks.due("ask without an error, behind a compile with one", -1, bench.errorAt());
    }

    private static void counts() {
        StringBuilder text = new StringBuilder();
        for (int i = 0; i < 12; i++) {
            text.append(i < 8 ? "signal s" + i + "=1;" : "").append("let l" + i + ":=true;");
            text.append("value v" + i + "=1;").append("watch w" + i + ":true;");
        }
        PastWatch bench = Checks.bench(text.toString());
        int[] most = {8, 12, 12, 12, 120, 120, 1800};
        for (int step = 0; step < 120; step++) {
            bench.tick(0);
            Checks.due("steps", step + 1, bench.count(4));
        }
        bench.keep();
        Checks.type(bench, " ".repeat(1800));
        for (int what = 0; what <= 6; what++) {
            Checks.due("count(" + what + ") of all that there can be", most[what], bench.count(what));
        }
        bench.back(7);
        Checks.due("steps", 7, bench.count(4));
        Checks.due("kept steps", 120, bench.count(5));
        bench.keep();
        Checks.due("kept steps", 7, bench.count(5));
        bench.trim(3);
        Checks.due("bytes", 3, bench.count(6));
        PastWatch other = Checks.bench("signal s = 1; let l := true; let m := true; value a = 1; value b = 1; value c = 1; "
            + "watch u: true; watch v: true; watch w: true; watch x: true;");
        for (int what = 0; what <= 3; what++) {
            Checks.due("count(" + what + ")", what + 1, other.count(what));
        }
    }
}
