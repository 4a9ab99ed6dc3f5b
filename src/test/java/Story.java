/** All that a bench tells of itself, as one text, to compare two benches; behind it the bench is used up. */
final class Story {
    private static final int MOST_STEPS = 6;

    private Story() {
    }

    static String of(PastWatch bench) {
        StringBuilder text = new StringBuilder();
        present(bench, text);
        // What is kept and what is on the tape can only be told by using it.
        text.append(" replay ").append(Checks.answer(() -> bench.replay()));
        present(bench, text);
        text.append(" compile ").append(bench.compile());
        present(bench, text);
        return text.toString();
    }

    private static void present(PastWatch bench, StringBuilder text) {
        text.append(" error ").append(bench.errorAt()).append(" digest ").append(bench.digest());
        text.append(" alarms ").append(bench.alarms(0));
        int steps = Math.min(MOST_STEPS, bench.count(4));
        for (int i = 0; i < steps; i++) {
            int step = i;
            text.append(" time ").append(bench.time(step)).append(" answer ").append(Checks.answer(() -> bench.answer(step)));
            for (int watch = 0; watch < bench.count(3); watch++) {
                int number = watch;
                text.append(" why ").append(Checks.answer(() -> bench.why(number, step, false)));
                text.append(" ").append(Checks.answer(() -> bench.why(number, step, true)));
            }
        }
    }
}
