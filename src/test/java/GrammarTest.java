import java.util.ArrayList;
import java.util.HashMap;
import java.util.List;
import java.util.Map;
import java.util.Random;

/** Errors and their places, of many programs and questions that are changed a little at random. */
final class GrammarTest {
    private static final String[] WORDS = ("signal let value watch level not prev rise fall once always since and or implies is true false "
        + "if then else old max min sum count at last time step ( ) { } [ ] ; : := = + - * / % < > <= >= <> .. "
        + "1 9 10 1000 1001 0 999999 1234567 a b1 zz toolongxx eightlet # . A ~ \u00e9").split(" ");
    private static final int ROUNDS = Integer.getInteger("rounds", 1500);

    public static void main(String[] args) {
        int[] seen = new int[7];
        for (int round = 0; round < ROUNDS; round++) {
            Random random = new Random(round);
            Generator generator = new Generator(random);
            generator.items(1 + random.nextInt(6), 1 + random.nextInt(12));
            if (generator.tokens.size() >= 4 && generator.tokens.size() <= 160) {
                seen[program(generator, random)]++;
                question(generator, random);
            }
        }
        for (int error = 0; error < 7; error++) {
            System.out.println("programs with error " + error + ": " + seen[error]);
            if (seen[error] < 2 && error != 4) {
                Checks.due("programs with error " + error, "some", "" + seen[error]);
            }
        }
        Checks.end("GrammarTest");
    }

    private static int program(Generator generator, Random random) {
        boolean isNames = random.nextBoolean();
        for (int i = random.nextInt(4); i > 0; i--) {
            if (isNames) {
                changeName(generator.tokens, random);
            } else {
                change(generator.tokens, random);
            }
        }
        String text = generator.layout(random.nextInt(40));
        if (!isNames && random.nextInt(20) == 0 && text.length() > 0) {
            text = text.substring(0, random.nextInt(text.length()));
        }
        if (text.length() > 1800) {
            return 0;
        }
        Referee referee = Referee.ofProgram(text);
        Checks.error(text, referee.error, referee.place);
        return referee.error;
    }

    private static void question(Generator generator, Random random) {
        PastWatch bench = new PastWatch();
        Map<String, String> names = new HashMap<>();
        Generator own = new Generator(random);
        own.program(1 + random.nextInt(6), 1 + random.nextInt(5));
        String program = own.layout(5);
        if (own.tokens.size() <= 400 && program.length() <= 1800) {
            Checks.due("compile " + program, 0, Checks.compile(bench, program));
            for (int i = 0; i < own.tokens.size() - 1; i++) {
                if (List.of("signal", "let", "value", "watch").contains(own.tokens.get(i))) {
                    names.put(own.tokens.get(i + 1), own.tokens.get(i));
                }
            }
        }
        own.question(1 + random.nextInt(12));
        for (int i = random.nextInt(3); i > 0; i--) {
            change(own.tokens, random);
        }
        String text = own.layout(10);
        if (own.tokens.size() <= 160 && text.length() <= 1800) {
            Referee referee = Referee.ofQuestion(text, names);
            Checks.askError(bench, text, referee.error, referee.place);
        }
    }

    private static void change(List<String> tokens, Random random) {
        int at = random.nextInt(tokens.size());
        String other = random.nextInt(3) > 0 ? tokens.get(random.nextInt(tokens.size())) : WORDS[random.nextInt(WORDS.length)];
        switch (random.nextInt(6)) {
            case 0:
                tokens.remove(at);
                if (tokens.isEmpty()) {
                    tokens.add(";");
                }
                break;
            case 1:
                tokens.add(at, other);
                break;
            case 2:
                tokens.set(at, other);
                break;
            case 3:
                tokens.addAll(new ArrayList<>(tokens.subList(at, Math.min(tokens.size(), at + 12))));
                break;
            case 4:
                changeName(tokens, random);
                break;
            default:
                String opener = new String[] {"{", "(", "not", "-", "old", "once", "always", "prev"}[random.nextInt(8)];
                for (int i = 1 + random.nextInt(11); i > 0; i--) {
                    tokens.add(at, opener);
                }
                break;
        }
    }

    /** Puts a name or a number in the place of another one: the form stays as it was. */
    private static void changeName(List<String> tokens, Random random) {
        List<Integer> names = new ArrayList<>();
        List<Integer> numbers = new ArrayList<>();
        for (int i = 0; i < tokens.size(); i++) {
            if (tokens.get(i).matches("[a-z][0-9].*")) {
                names.add(i);
            } else if (tokens.get(i).matches("[0-9]+")) {
                numbers.add(i);
            }
        }
        if (random.nextBoolean() && !numbers.isEmpty()) {
            String[] others = {"0", "9", "10", "1000", "1001", "3"};
            tokens.set(numbers.get(random.nextInt(numbers.size())), others[random.nextInt(others.length)]);
        } else if (!names.isEmpty()) {
            String other = random.nextInt(4) == 0 ? "q0" : tokens.get(names.get(random.nextInt(names.size())));
            tokens.set(names.get(random.nextInt(names.size())), other);
        }
    }
}
