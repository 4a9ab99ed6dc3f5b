/** The example of README.md: a boiler that must not be hot, and whose valve must have been opened when it is. */
final class Example {
    private static final String BOILER =
        "signal heat = 20; signal valve = 0;"
        + "let hot := heat > 90;"
        + "value peak = max heat;"
        + "watch cool: always [0..10] not is hot level 7;"
        + "watch opened: is hot implies once [0..5] valve = 1;";
    private static final String STRICTER = "signal heat = 20; watch warm: heat < 60;";

    public static void main(String[] args) {
        PastWatch bench = new PastWatch();
        type(bench, BOILER);
        show("compile", bench.compile());                     // 0, or the error, 1 to 6
        show("errorAt", bench.errorAt());                     // its place; -1 if there is none

        show("tick", bench.tick(0));                          // step 0, at the time 0
        show("set", bench.set(0, 95));                        // signal 0, from the next step on
        show("tick", bench.tick(4));                          // step 1, at the time 4: both watches do not hold
        bench.set(0, 70);
        bench.set(1, 1);
        show("tick", bench.tick(4));                          // step 2, at the time 8: cool does not hold

        show("value", bench.value(0, 2));                     // peak at step 2
        show("let", bench.let(0, 2));                         // hot at step 2
        show("watch", bench.watch(0, 2));                     // cool at step 2
        show("why, the place", bench.why(0, 2, false));       // where the reason stands: at "not is hot" ..
        show("why, the step", bench.why(0, 2, true));         // .. and when that was
        show("told", bench.told(0, 1));                       // at how many steps cool does not hold
        show("alarms", bench.alarms(7));                      // watches of level 7 or more, at the last step
        show("share", bench.share(1));                        // the part of the steps at which opened holds

        type(bench, "prev heat > 90");
        show("ask", bench.ask());                             // a formula, at all steps that were done
        show("answer", bench.answer(2));

        show("keep", bench.keep());                           // the steps, for another program
        type(bench, STRICTER);
        show("compile", bench.compile());
        show("replay", bench.replay());                       // at how many of the steps all watches hold
        show("back", bench.back(1));                          // only step 0 is left, at the time 0
        show("digest", bench.digest());
    }

    /** A text on the tape, twenty bytes a call, four in each number; blanks at the end do no harm. */
    private static void type(PastWatch bench, String text) {
        for (int i = 0; i < text.length(); i += 20) {
            int[] five = new int[5];
            for (int k = 0; k < 20; k++) {
                five[k / 4] = five[k / 4] << 8 | (i + k < text.length() ? text.charAt(i + k) : ' ');
            }
            bench.feed(five[0], five[1], five[2], five[3], five[4]);
        }
    }

    private static void show(String call, Object answer) {
        System.out.println(call + ": " + answer);
    }
}
