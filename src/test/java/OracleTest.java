import java.util.Random;

/** Runs of calls at random, answered by the bench and by the Model: they must be of one mind. */
final class OracleTest {
    private static final int ROUNDS = Integer.getInteger("rounds", 400);
    private static final int FROM = Integer.getInteger("from", 0);
    private static final int CALLS = 512;
    /** The most calls that a program or a question takes: trim, 90 times feed, trim, and compile or ask. */
    private static final int DEAREST = 93;

    private final Random random;
    private final PastWatch bench = new PastWatch();
    private final Model model = new Model();
    private final int size;
    private final int round;
    private int calls = 0;

    private OracleTest(int round) {
        this.round = round;
        random = new Random(round * 7919L);
        size = 1 + random.nextInt(random.nextInt(4) == 0 ? 60 : 14);
    }

    public static void main(String[] args) {
        for (int round = FROM; round < FROM + ROUNDS; round++) {
            new OracleTest(round).run();
        }
        Checks.end("OracleTest");
    }

    private void same(String what, Checks.Call own, Checks.Call due) {
        calls++;
        Object want = Checks.answer(due);
        Checks.due("round " + round + ", call " + calls + ", " + what, want, Checks.answer(own));
    }

    private void run() {
        if (random.nextInt(3) > 0) {
            program(false);
        }
        int busy = random.nextInt(3);
        while (calls + DEAREST < CALLS) {
            int choice = random.nextInt(100);
            if (choice < 2) {
                program(random.nextInt(6) == 0);
            } else if (choice < 6) {
                question();
            } else if (choice < (busy == 0 ? 75 : 45)) {
                step();
            } else {
                look();
            }
        }
        // A look may be two calls; the last call of all is the digest.
        while (calls + 2 < CALLS) {
            look();
        }
        same("digest", () -> bench.digest(), () -> model.digest());
    }

    private void type(String text) {
        if (!model.tape.isEmpty()) {
            same("trim", () -> bench.trim(0), () -> model.trim(0));
        }
        for (int i = 0; i < text.length(); i += 20) {
            int[] five = new int[5];
            for (int k = 0; k < 20; k++) {
                five[k / 4] = five[k / 4] << 8 | (i + k < text.length() ? text.charAt(i + k) : random.nextInt(256));
            }
            same("feed", () -> bench.feed(five[0], five[1], five[2], five[3], five[4]), () -> model.feed(five));
        }
        same("trim", () -> bench.trim(text.length()), () -> model.trim(text.length()));
    }

    private void program(boolean isWrong) {
        Generator made = new Generator(random);
        made.program(1 + random.nextInt(size > 20 ? 5 : 16), size);
        String text = made.layout(random.nextInt(10));
        if (made.tokens.size() > 400 || text.length() > 1800) {
            return;
        }
        if (isWrong) {
            String cut = text.substring(0, random.nextInt(text.length()));
            type(cut);
            Referee referee = Referee.ofProgram(cut);
            Generator none = null;
            if (referee.error != 0) {
                same("compile " + cut, () -> bench.compile(), () -> model.compile(none, referee.error, referee.place));
            }
        } else {
            type(text);
            same("compile " + text, () -> bench.compile(), () -> model.compile(made, 0, -1));
        }
    }

    private void question() {
        Generator made = model.program != null ? model.program : new Generator(random);
        Tree formula = made.question(size);
        String text = made.layout(random.nextInt(10));
        if (made.tokens.size() > 400 || text.length() > 1800) {
            return;
        }
        if (random.nextInt(5) == 0) {
            String wrong = text + " q9";
            type(wrong);
            same("ask " + wrong, () -> bench.ask(), () -> model.ask(null, 1, text.length() + 1));
        } else {
            type(text);
            same("ask " + text, () -> bench.ask(), () -> model.ask(formula, 0, -1));
        }
    }

    /** A number that is mostly one of 0 to most - 1, and sometimes beside these. */
    private int about(int most) {
        int choice = random.nextInt(40);
        if (choice < 37 && most > 0) {
            return random.nextInt(most);
        }
        return choice == 37 ? -1 : choice == 38 ? most : random.nextInt();
    }

    private int known(int what) {
        return (int) (Integer) model.count(what);
    }

    private long anyValue() {
        int choice = random.nextInt(20);
        return choice < 17 ? random.nextInt(9) - 2 : choice == 17 ? random.nextLong() : choice == 18 ? Long.MIN_VALUE : Long.MAX_VALUE;
    }

    private void step() {
        int choice = random.nextInt(100);
        if (choice < 40) {
            int signal = about(known(0));
            long value = anyValue();
            same("set", () -> bench.set(signal, value), () -> model.set(signal, value));
        } else if (choice < 88) {
            int more = random.nextInt(30) == 0 ? about(1001) : random.nextInt(5);
            same("tick", () -> bench.tick(more), () -> model.tick(more));
        } else if (choice < 93) {
            int steps = random.nextInt(4) == 0 ? about(known(4) + 1) : Math.max(0, known(4) - random.nextInt(4));
            same("back", () -> bench.back(steps), () -> model.back(steps));
        } else if (choice < 94) {
            same("restart", () -> bench.restart(), () -> model.restart());
        } else if (choice < 97) {
            same("keep", () -> bench.keep(), () -> model.keep());
        } else {
            same("replay", () -> bench.replay(), () -> model.replay());
        }
    }

    private void look() {
        int step = random.nextInt(3) == 0 ? known(4) - 1 : about(known(4));
        int watch = about(known(3));
        int other = about(known(3));
        int what = about(7);
        boolean isStep = random.nextBoolean();
        switch (random.nextInt(15)) {
            case 0: same("errorAt", () -> bench.errorAt(), () -> model.errorPlace); break;
            case 1: same("count", () -> bench.count(what), () -> model.count(what)); break;
            case 2: same("time", () -> bench.time(step), () -> model.time(step)); break;
            case 3:
                int signal = about(known(0));
                same("signal", () -> bench.signal(signal, step), () -> model.signal(signal, step));
                break;
            case 4: case 5:
                int value = about(known(2));
                same("value", () -> bench.value(value, step), () -> model.value(value, step));
                break;
            case 6:
                int let = about(known(1));
                same("let", () -> bench.let(let, step), () -> model.let(let, step));
                break;
            case 7: same("watch", () -> bench.watch(watch, step), () -> model.watch(watch, step)); break;
            case 8: same("told", () -> bench.told(watch, what), () -> model.told(watch, what)); break;
            case 9: same("alarms", () -> bench.alarms(what), () -> model.alarms(what)); break;
            case 10: case 11: same("why", () -> bench.why(watch, step, isStep), () -> model.why(watch, step, isStep)); break;
            case 12: same("differ", () -> bench.differ(watch, other), () -> model.differ(watch, other)); break;
            case 13: same("share", () -> bench.share(watch), () -> model.share(watch)); break;
            default:
                same("answer", () -> bench.answer(step), () -> model.answer(step));
                if (random.nextInt(6) == 0) {
                    same("digest", () -> bench.digest(), () -> model.digest());
                }
                break;
        }
    }
}
