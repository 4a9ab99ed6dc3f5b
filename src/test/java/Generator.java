import java.util.ArrayList;
import java.util.List;
import java.util.Random;

/** Makes programs and formulas that are right, as tokens and as trees. */
final class Generator {
    private static final String[] COMPARES = {"=", "<>", "<", ">", "<=", ">="};
    private static final String[] PREFIXES = {"not", "prev", "rise", "fall", "once", "always"};

    final Random random;
    List<String> tokens = new ArrayList<>();
    final List<Tree> trees = new ArrayList<>();
    /** The items: names, and what stands behind them. */
    List<String> signals = new ArrayList<>();
    List<Long> firsts = new ArrayList<>();
    List<Tree> lets = new ArrayList<>();
    List<Tree> values = new ArrayList<>();
    List<Tree> watches = new ArrayList<>();
    List<Integer> levels = new ArrayList<>();
    private List<String> holdNames = new ArrayList<>();
    private List<Tree> holdTrees = new ArrayList<>();
    private List<String> valueNames = new ArrayList<>();
    private int names = 0;

    Generator(Random random) {
        this.random = random;
    }

    private boolean chance(int percent) {
        return random.nextInt(100) < percent;
    }

    private Tree tree(String op) {
        Tree tree = new Tree(op, tokens.size());
        trees.add(tree);
        return tree;
    }

    private String newName() {
        names++;
        String name = "" + (char) ('a' + random.nextInt(26)) + names;
        return chance(10) ? (name + "xyzxyz").substring(0, 8) : name;
    }

    /** A program of about so many items, each about so large. */
    void program(int items, int size) {
        items(items, size);
        if (watches.isEmpty()) {
            item(3, size);
        }
    }

    /** Items, among which there may be no watch. */
    void items(int items, int size) {
        for (int i = 0; i < items; i++) {
            item(random.nextInt(4), size);
        }
    }

    private void item(int sort, int size) {
        if ((sort == 0 ? signals.size() : sort == 1 ? lets.size() : sort == 2 ? values.size() : watches.size()) >= (sort == 0 ? 8 : 12)) {
            return;
        }
        String name = newName();
        tokens.add(new String[] {"signal", "let", "value", "watch"}[sort]);
        tokens.add(name);
        tokens.add(new String[] {"=", ":=", "=", ":"}[sort]);
        if (sort == 0) {
            long first = random.nextInt(7);
            boolean isNegative = chance(20);
            if (isNegative) {
                tokens.add("-");
            }
            tokens.add("" + first);
            signals.add(name);
            firsts.add(isNegative ? -first : first);
        } else if (sort == 2) {
            values.add(expression(0, size));
            valueNames.add(name);
        } else {
            Tree formula = formula(0, size);
            (sort == 1 ? lets : watches).add(formula);
            holdNames.add(name);
            holdTrees.add(formula);
            if (sort == 3) {
                levels.add(level());
            }
        }
        tokens.add(";");
    }

    private int level() {
        if (chance(50)) {
            return 5;
        }
        int level = random.nextInt(10);
        tokens.add("level");
        tokens.add((chance(10) ? "0" : "") + level);
        return level;
    }

    Tree formula(int depth, int size) {
        int at = tokens.size();
        Tree first = row("or", depth, size);
        if (size < 2 || !chance(20)) {
            return first;
        }
        Tree implies = new Tree("implies", at);
        trees.add(implies);
        tokens.add("implies");
        implies.parts.add(first);
        implies.parts.add(formula(depth, size - 1));
        return implies;
    }

    private Tree row(String op, int depth, int size) {
        int at = tokens.size();
        int many = size < 2 || !chance(30) ? 1 : 2 + random.nextInt(2);
        List<Tree> parts = new ArrayList<>();
        for (int i = 0; i < many; i++) {
            if (i > 0) {
                tokens.add(op);
            }
            parts.add(op.equals("or") ? row("and", depth, size / many) : since(depth, size / many));
        }
        if (many == 1) {
            return parts.get(0);
        }
        Tree row = new Tree(op, at);
        trees.add(row);
        row.parts.addAll(parts);
        return row;
    }

    private Tree since(int depth, int size) {
        int at = tokens.size();
        Tree first = one(depth, size);
        if (size < 2 || !chance(25)) {
            return first;
        }
        Tree since = new Tree("since", at);
        trees.add(since);
        tokens.add("since");
        bounds(since);
        since.parts.add(first);
        since.parts.add(one(depth, size - 1));
        return since;
    }

    private void bounds(Tree tree) {
        if (chance(50)) {
            return;
        }
        int most = chance(10) ? 1000 : 12;
        int a = random.nextInt(most + 1);
        int b = random.nextInt(most + 1);
        tree.low = Math.min(a, b);
        tree.high = Math.max(a, b);
        tokens.add("[");
        tokens.add("" + tree.low);
        tokens.add("..");
        tokens.add("" + tree.high);
        tokens.add("]");
    }

    private Tree one(int depth, int size) {
        int choice = random.nextInt(100);
        boolean canDeepen = depth < 10 && size > 1;
        if (canDeepen && choice < 40) {
            Tree tree = tree(PREFIXES[random.nextInt(6)]);
            tokens.add(tree.op);
            if (tree.op.equals("once") || tree.op.equals("always")) {
                bounds(tree);
            }
            tree.parts.add(one(depth + 1, size - 1));
            return tree;
        }
        if (canDeepen && choice < 60) {
            return braced(depth, size);
        }
        if (choice < 65) {
            Tree tree = tree(chance(50) ? "true" : "false");
            tokens.add(tree.op);
            return tree;
        }
        if (choice < 75 && !holdNames.isEmpty()) {
            Tree tree = tree("is");
            int which = random.nextInt(holdNames.size());
            tree.target = holdTrees.get(which);
            tokens.add("is");
            tokens.add(holdNames.get(which));
            return tree;
        }
        Tree tree = tree(COMPARES[random.nextInt(6)]);
        tree.parts.add(expression(depth, size / 2));
        tokens.add(tree.op);
        tree.parts.add(expression(depth, size / 2));
        return tree;
    }

    private Tree braced(int depth, int size) {
        tokens.add("{");
        Tree formula = formula(depth + 1, size - 1);
        tokens.add("}");
        return formula;
    }

    Tree expression(int depth, int size) {
        return chain(new String[] {"+", "-"}, depth, size);
    }

    private Tree chain(String[] operators, int depth, int size) {
        int at = tokens.size();
        Tree tree = operators.length == 2 ? chain(new String[] {"*", "/", "%"}, depth, size) : factor(depth, size);
        for (int i = 0; i < 3 && size > 1 && chance(20); i++) {
            Tree joined = new Tree(operators[random.nextInt(operators.length)], at);
            trees.add(joined);
            tokens.add(joined.op);
            joined.parts.add(tree);
            joined.parts.add(operators.length == 2 ? chain(new String[] {"*", "/", "%"}, depth, size / 2) : factor(depth, size / 2));
            tree = joined;
        }
        return tree;
    }

    private Tree factor(int depth, int size) {
        int choice = random.nextInt(100);
        if (depth < 10 && size > 1 && choice < 55) {
            return choice < 15 ? bracketed(depth, size) : choice < 35 ? prefixed(depth, size) : ofFormula(depth, size);
        }
        if (choice < 80 && !signals.isEmpty()) {
            int which = random.nextInt(signals.size());
            Tree tree = tree("signal");
            tree.number = which;
            tokens.add(signals.get(which));
            return tree;
        }
        if (choice < 88 && !valueNames.isEmpty()) {
            int which = random.nextInt(valueNames.size());
            Tree tree = tree("value");
            tree.target = values.get(which);
            tokens.add(valueNames.get(which));
            return tree;
        }
        if (choice < 92) {
            Tree tree = tree(chance(50) ? "time" : "step");
            tokens.add(tree.op);
            return tree;
        }
        Tree tree = tree("number");
        tree.number = chance(80) ? random.nextInt(6) : random.nextInt(1000000);
        tokens.add("" + tree.number);
        return tree;
    }

    private Tree bracketed(int depth, int size) {
        tokens.add("(");
        Tree tree = expression(depth + 1, size - 1);
        tokens.add(")");
        return tree;
    }

    private Tree prefixed(int depth, int size) {
        String word = new String[] {"-", "old", "max", "min", "sum"}[random.nextInt(5)];
        Tree tree = tree(word.equals("-") ? "negative" : word);
        tokens.add(word);
        tree.parts.add(factor(depth + 1, size - 1));
        return tree;
    }

    private Tree ofFormula(int depth, int size) {
        Tree tree = tree(new String[] {"count", "last", "at", "if"}[random.nextInt(4)]);
        tokens.add(tree.op);
        tree.parts.add(braced(depth, size - 1));
        if (tree.op.equals("at")) {
            tree.parts.add(factor(depth + 1, size - 1));
        }
        if (tree.op.equals("if")) {
            tokens.add("then");
            tree.parts.add(factor(depth + 1, size / 2));
            tokens.add("else");
            tree.parts.add(factor(depth + 1, size / 2));
        }
        return tree;
    }

    /** The text of tokens, with more blanks than needed at random; tells the trees their places. */
    String layout(int spareBlanks) {
        StringBuilder text = new StringBuilder();
        int[] places = new int[tokens.size() + 1];
        for (int i = 0; i < tokens.size(); i++) {
            if (i > 0 && needsBlank(tokens.get(i - 1), tokens.get(i)) || chance(spareBlanks)) {
                text.append(chance(80) ? ' ' : '\n');
            }
            while (chance(spareBlanks / 2)) {
                text.append(chance(50) ? ' ' : '\n');
            }
            places[i] = text.length();
            text.append(tokens.get(i));
        }
        if (chance(spareBlanks)) {
            text.append(chance(50) ? ' ' : '\n');
        }
        for (Tree tree : trees) {
            tree.place = places[Math.min(tree.token, tokens.size())];
        }
        return text.toString();
    }

    /** Begins a formula that is asked: the names of the program stay, its tokens do not. */
    Tree question(int size) {
        tokens = new ArrayList<>();
        trees.clear();
        return formula(0, size);
    }

    private static boolean needsBlank(String before, String behind) {
        char first = behind.charAt(0);
        char last = before.charAt(before.length() - 1);
        if (Character.isLetterOrDigit(last) && Character.isLetterOrDigit(first)) {
            return Character.isLetter(before.charAt(0)) || Character.isDigit(first);
        }
        return (before + first).matches(":=|<=|<>|>=");
    }
}
