/** Promises 1 to 6: a new object, the tape, compiling, and what is counted. */
final class ProgramsTest {
    private static final Class<?> STATE = IllegalStateException.class;
    private static final Class<?> ARGUMENT = IllegalArgumentException.class;
    private static final Class<?> BOUNDS = IndexOutOfBoundsException.class;

    public static void main(String[] args) {
        newObject();
        feeding();
        bytesOfNumbers();
        trimming();
        compiling();
        errorPlaces();
        counting();
        Checks.end("ProgramsTest");
    }

    private static void newObject() {
        PastWatch bench = new PastWatch();
        for (int what = 0; what <= 6; what++) {
            Checks.due("count of a new bench", 0, bench.count(what));
        }
        Checks.due("errorAt of a new bench", -1, bench.errorAt());
        Checks.refuses("tick without a program", STATE, () -> bench.tick(0));
        Checks.refuses("restart without a program", STATE, () -> bench.restart());
        Checks.refuses("replay without a program", STATE, () -> bench.replay());
        Checks.due("keep without a program", 0, bench.keep());
        Checks.due("back without a program", 0, bench.back(0));
        Checks.due("alarms without a program", 0, bench.alarms(0));
        Checks.refuses("answer of a new bench", BOUNDS, () -> bench.answer(0));
        Checks.refuses("set of a new bench", BOUNDS, () -> bench.set(0, 1));
        long digest = 383;
        for (int what = 0; what <= 6; what++) {
            digest = digest * 31;
        }
        Checks.due("digest of a new bench", digest, bench.digest());
        Checks.due("compile of an empty tape", 1, bench.compile());
        Checks.due("its place", 0, bench.errorAt());
    }

    private static void feeding() {
        PastWatch bench = new PastWatch();
        for (int bytes = 20; bytes <= 1800; bytes += 20) {
            Checks.due("feed", bytes, bench.feed(0, 0, 0, 0, 0));
        }
        Checks.refuses("feed beyond 1800", STATE, () -> bench.feed(0, 0, 0, 0, 0));
        Checks.due("tape behind it", 1800, bench.count(6));
        Checks.due("trim", 1781, bench.trim(1781));
        Checks.refuses("feed to 1801", STATE, () -> bench.feed(0, 0, 0, 0, 0));
        Checks.due("tape behind it", 1781, bench.count(6));
        Checks.due("trim", 1780, bench.trim(1780));
        Checks.due("feed to 1800", 1800, bench.feed(0, 0, 0, 0, 0));
    }

    private static void bytesOfNumbers() {
        PastWatch bench = new PastWatch();
        bench.feed(0x77617463, 0x6820773a, 0x2031203c, 0x20323b20, 0x0a202020);
        Checks.due("compile of bytes", 0, bench.compile());
        Checks.due("watches", 1, bench.count(3));
        // A byte of 128 and more is a byte with which no token begins.
        for (int sign : new int[] {0, 9, 13, 31, 33, 46, 64, 65, 90, 95, 96, 124, 126, 127, 128, 255}) {
            Checks.error("watch w: true; " + (char) sign, 1, 15);
            Checks.error("watch w: tru" + (char) sign, 1, 12);
        }
    }

    private static void trimming() {
        PastWatch bench = new PastWatch();
        Checks.due("trim of nothing", 0, bench.trim(0));
        Checks.refuses("trim beyond", ARGUMENT, () -> bench.trim(1));
        Checks.refuses("trim below", ARGUMENT, () -> bench.trim(-1));
        Checks.type(bench, "watch w: true;x");
        Checks.refuses("trim beyond", ARGUMENT, () -> bench.trim(16));
        Checks.refuses("trim below", ARGUMENT, () -> bench.trim(Integer.MIN_VALUE));
        Checks.refuses("trim above", ARGUMENT, () -> bench.trim(Integer.MAX_VALUE));
        Checks.due("trim to all", 15, bench.trim(15));
        Checks.due("trim", 14, bench.trim(14));
        Checks.due("bytes", 14, bench.count(6));
        Checks.due("compile of the rest", 0, bench.compile());
        // What was trimmed is not there for the bytes that come behind it.
        Checks.type(bench, "watch w: true; zzz");
        bench.trim(14);
        Checks.type(bench, " watch v: true;");
        Checks.due("compile of both", 0, bench.compile());
        Checks.due("watches", 2, bench.count(3));
    }

    private static void compiling() {
        PastWatch bench = Checks.bench("signal s = 4; let l := true; let m := false; value v = 1; watch w: s > 1;");
        Checks.due("tape", 0, bench.count(6));
        Checks.due("signals", 1, bench.count(0));
        Checks.due("lets", 2, bench.count(1));
        Checks.due("values", 1, bench.count(2));
        Checks.due("watches", 1, bench.count(3));
        bench.tick(3);
        bench.set(0, 9);
        bench.tick(3);
        Checks.due("keep", 2, bench.keep());
        Checks.due("ask", 0, Checks.ask(bench, "true"));
        Checks.due("compile anew", 0, Checks.compile(bench, "signal s = 5; watch w: s > 1;"));
        Checks.due("steps", 0, bench.count(4));
        Checks.due("kept", 2, bench.count(5));
        Checks.due("set to the first value", 5L, bench.set(0, 6));
        bench.tick(0);
        Checks.due("time begins anew", 0, bench.time(0));
        Checks.refuses("the question is gone", STATE, () -> bench.answer(0));
        Checks.due("compile of an error", 2, Checks.compile(bench, "signal s = 1; watch w: t > 1;"));
        for (int what = 0; what <= 4; what++) {
            Checks.due("nothing is left", 0, bench.count(what));
        }
        Checks.due("kept stays", 2, bench.count(5));
        Checks.due("tape", 0, bench.count(6));
        Checks.refuses("no program", STATE, () -> bench.tick(0));
        Checks.refuses("no program", STATE, () -> bench.restart());
        Checks.refuses("no program", STATE, () -> bench.replay());
        Checks.due("ask of a name that is gone", 2, Checks.ask(bench, "is w"));
        Checks.due("ask of a name that is gone", 2, Checks.ask(bench, "s = 1"));
        Checks.due("error of form", 1, Checks.compile(bench, "signal s = 1; watch w s"));
        Checks.due("signals", 0, bench.count(0));
        Checks.due("compile again", 0, Checks.compile(bench, "signal s = 1; watch w: s > 1;"));
        Checks.due("replay of what stayed", 2, bench.replay());
    }

    private static void errorPlaces() {
        PastWatch bench = new PastWatch();
        Checks.due("compile", 1, Checks.compile(bench, "watch w: true"));
        Checks.due("errorAt", 13, bench.errorAt());
        Checks.type(bench, "watch w: true;");
        Checks.due("errorAt stays", 13, bench.errorAt());
        bench.compile();
        Checks.due("errorAt of none", -1, bench.errorAt());
        Checks.askError(bench, "is w and x = 1", 2, 9);
        Checks.askError(bench, "is w", 0, -1);
        Checks.askError(bench, "is w)", 1, 4);
        Checks.due("compile", 0, Checks.compile(bench, "watch w: true;"));
        Checks.due("errorAt of none", -1, bench.errorAt());
    }

    private static void counting() {
        PastWatch bench = Checks.bench("signal s = 4; watch w: true;");
        Checks.refuses("count(-1)", BOUNDS, () -> bench.count(-1));
        Checks.refuses("count(7)", BOUNDS, () -> bench.count(7));
        bench.tick(1);
        bench.tick(1);
        bench.keep();
        bench.tick(1);
        Checks.type(bench, "12345");
        Checks.due("steps", 3, bench.count(4));
        Checks.due("kept", 2, bench.count(5));
        Checks.due("bytes", 5, bench.count(6));
    }
}
