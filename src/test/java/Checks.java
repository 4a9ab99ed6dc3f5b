import java.nio.charset.StandardCharsets;

/** What the tests share: putting text on a tape, comparing answers, ending. */
final class Checks {
    interface Call {
        Object run();
    }

    private static int wrong = 0;
    private static int done = 0;
    private static int sentences = 0;
    private static String sentence = "";

    private Checks() {
    }

    static void due(String what, Object want, Object got) {
        done++;
        if (!want.equals(got)) {
            wrong++;
            if (wrong <= 40) {
                System.out.println(sentence + what + ": answered " + got + ", due is " + want);
            }
        }
    }

    /** The test of one sentence of the document, by the part it stands in and its own words; what fails in it tells these. */
    static void sentence(String part, String words, Runnable test) {
        int before = done;
        sentence = part + ", \"" + words + "\" is broken: ";
        sentences++;
        try {
            test.run();
        } catch (RuntimeException e) {
            due("the test", "ends", e.toString());
        }
        if (done == before) {
            due("the test", "looks at an answer", "looks at none");
        }
        sentence = "";
    }

    /** The answer of a call, or "throws X". */
    static Object answer(Call call) {
        try {
            return call.run();
        } catch (RuntimeException e) {
            return "throws " + e.getClass().getSimpleName();
        }
    }

    static void refuses(String what, Class<?> exception, Call call) {
        due(what, "throws " + exception.getSimpleName(), answer(call));
    }

    /** Puts a text on the tape: behind it the tape has just these bytes more. */
    static int type(PastWatch bench, String text) {
        byte[] bytes = text.getBytes(StandardCharsets.ISO_8859_1);
        int before = bench.count(6);
        for (int i = 0; i < bytes.length; i += 20) {
            int[] five = new int[5];
            for (int k = 0; k < 20; k++) {
                int sign = i + k < bytes.length ? bytes[i + k] & 255 : 32;
                five[k / 4] = five[k / 4] << 8 | sign;
            }
            bench.feed(five[0], five[1], five[2], five[3], five[4]);
        }
        return bench.trim(before + bytes.length);
    }

    static int compile(PastWatch bench, String text) {
        type(bench, text);
        return bench.compile();
    }

    static int ask(PastWatch bench, String text) {
        type(bench, text);
        return bench.ask();
    }

    /** A new bench with a program that must be right. */
    static PastWatch bench(String text) {
        PastWatch bench = new PastWatch();
        due("compile " + text, 0, compile(bench, text));
        return bench;
    }

    /** Compiles a text, and looks at the error and its place. */
    static void error(String text, int error, int place) {
        PastWatch bench = new PastWatch();
        due("compile " + text, error, compile(bench, text));
        due("errorAt " + text, place, bench.errorAt());
    }

    static void askError(PastWatch bench, String text, int error, int place) {
        due("ask " + text, error, ask(bench, text));
        due("errorAt of ask " + text, place, bench.errorAt());
    }

    static String repeat(String part, int times) {
        return part.repeat(times);
    }

    static void end(String name) {
        String told = sentences == 0 ? "" : sentences + " sentences, ";
        System.out.println(name + ": " + told + done + " answers, " + wrong + " wrong");
        if (wrong != 0) {
            System.exit(1);
        }
    }
}
