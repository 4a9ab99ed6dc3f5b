import java.util.ArrayList;
import java.util.HashMap;
import java.util.LinkedHashSet;
import java.util.List;
import java.util.Map;
import java.util.Set;
import java.util.regex.Matcher;
import java.util.regex.Pattern;

/**
 * Finds the error of a program or question and its place, by the grammar of the document
 * itself: with Earley's way of reading, each depth having nonterminals of its own, and with
 * a second look at the tokens for their meaning.
 */
final class Referee {
    private static final Pattern TOKEN =
        Pattern.compile("[a-z][a-z0-9]*|[0-9]+|:=|<=|>=|<>|\\.\\.|[(){}\\[\\];:=+\\-*/%<>]");
    private static final Set<String> KEYWORDS = Set.of(("signal let value watch level not prev rise fall once always since and or "
        + "implies is true false if then else old max min sum count at last time step").split(" "));
    private static final Map<String, List<String[]>> RULES = rules();

    int error;
    int place = -1;
    private final List<String> tokens = new ArrayList<>();
    private final List<Integer> places = new ArrayList<>();
    private int badPlace = -1;

    private record State(String left, String[] right, int dot, int from) {
    }

    private Referee(String text) {
        cut(text);
    }

    static Referee ofProgram(String text) {
        Referee referee = new Referee(text);
        referee.judge(text, "Program");
        if (referee.error == 0) {
            referee.meaningOfProgram(text.length());
        }
        return referee;
    }

    /** The names of the program stand in names, with what they are. */
    static Referee ofQuestion(String text, Map<String, String> names) {
        Referee referee = new Referee(text);
        referee.judge(text, "Formula0");
        if (referee.error == 0) {
            referee.meaning(0, referee.tokens.size(), names);
        }
        return referee;
    }

    private static Map<String, List<String[]>> rules() {
        Map<String, List<String[]>> rules = new HashMap<>();
        add(rules, "Program", "Item", "Program Item");
        add(rules, "Whole", "number", "- number");
        add(rules, "Item", "signal name = Whole ;", "let name := Formula0 ;", "value name = Expr0 ;",
            "watch name : Formula0 ;", "watch name : Formula0 level number ;");
        add(rules, "Bounds", "[ number .. number ]");
        add(rules, "Compare", "=", "<>", "<", ">", "<=", ">=");
        for (int depth = 0; depth <= 10; depth++) {
            addDepth(rules, "Formula", depth, "Either#", "Either# implies Formula#");
            addDepth(rules, "Either", depth, "Both#", "Either# or Both#");
            addDepth(rules, "Both", depth, "Since#", "Both# and Since#");
            addDepth(rules, "Since", depth, "One#", "One# since One#", "One# since Bounds One#");
            addDepth(rules, "One", depth, "Braced#", "true", "false", "is name", "Expr# Compare Expr#");
            addDepth(rules, "Expr", depth, "Product#", "Expr# + Product#", "Expr# - Product#");
            addDepth(rules, "Product", depth, "Factor#", "Product# * Factor#", "Product# / Factor#", "Product# % Factor#");
            addDepth(rules, "Factor", depth, "number", "name", "time", "step", "count Braced#", "last Braced#",
                "at Braced# Factor^", "if Braced# then Factor^ else Factor^");
            if (depth < 10) {
                addDepth(rules, "One", depth, "not One^", "prev One^", "rise One^", "fall One^", "once One^", "always One^",
                    "once Bounds One^", "always Bounds One^");
                addDepth(rules, "Braced", depth, "{ Formula^ }");
                addDepth(rules, "Factor", depth, "( Expr^ )", "- Factor^", "old Factor^", "max Factor^", "min Factor^", "sum Factor^");
            }
        }
        return rules;
    }

    private static void add(Map<String, List<String[]>> rules, String left, String... rights) {
        for (String right : rights) {
            rules.computeIfAbsent(left, key -> new ArrayList<>()).add(right.split(" "));
        }
    }

    private static void addDepth(Map<String, List<String[]>> rules, String left, int depth, String... rights) {
        for (String right : rights) {
            add(rules, left + depth, right.replace("#", "" + depth).replace("^", "" + (depth + 1)));
        }
    }

    private void cut(String text) {
        Matcher matcher = TOKEN.matcher(text);
        int at = 0;
        while (badPlace < 0) {
            while (at < text.length() && (text.charAt(at) == ' ' || text.charAt(at) == '\n')) {
                at++;
            }
            if (at == text.length()) {
                return;
            }
            boolean found = matcher.region(at, text.length()).lookingAt();
            String token = found ? matcher.group() : "";
            boolean isTooLong = found && (Character.isDigit(token.charAt(0)) && token.length() > 6
                || Character.isLetter(token.charAt(0)) && token.length() > 8);
            if (!found || isTooLong || tokens.size() == 400) {
                badPlace = at;
            } else {
                tokens.add(token);
                places.add(at);
                at += token.length();
            }
        }
    }

    private static String terminal(String token) {
        if (Character.isDigit(token.charAt(0))) {
            return "number";
        }
        return Character.isLetter(token.charAt(0)) && !KEYWORDS.contains(token) ? "name" : token;
    }

    private void judge(String text, String start) {
        List<Set<State>> sets = new ArrayList<>();
        Set<State> current = new LinkedHashSet<>();
        for (String[] right : RULES.get(start)) {
            current.add(new State(start, right, 0, 0));
        }
        for (int i = 0; i <= tokens.size(); i++) {
            sets.add(current);
            complete(sets, i);
            if (i == tokens.size()) {
                break;
            }
            Set<State> next = new LinkedHashSet<>();
            String terminal = terminal(tokens.get(i));
            for (State state : current) {
                if (state.dot < state.right.length && state.right[state.dot].equals(terminal)) {
                    next.add(new State(state.left, state.right, state.dot + 1, state.from));
                }
            }
            if (next.isEmpty()) {
                error = 1;
                place = places.get(i);
                return;
            }
            current = next;
        }
        boolean isWhole = false;
        for (State state : current) {
            isWhole |= state.left.equals(start) && state.dot == state.right.length && state.from == 0;
        }
        if (badPlace >= 0 || !isWhole) {
            error = 1;
            place = badPlace >= 0 ? badPlace : text.length();
        }
    }

    private static void complete(List<Set<State>> sets, int at) {
        Set<State> current = sets.get(at);
        List<State> work = new ArrayList<>(current);
        for (int k = 0; k < work.size(); k++) {
            State state = work.get(k);
            List<State> found = new ArrayList<>();
            if (state.dot == state.right.length) {
                for (State waiting : new ArrayList<>(sets.get(state.from))) {
                    if (waiting.dot < waiting.right.length && waiting.right[waiting.dot].equals(state.left)) {
                        found.add(new State(waiting.left, waiting.right, waiting.dot + 1, waiting.from));
                    }
                }
            } else {
                String wanted = state.right[state.dot];
                for (String[] right : RULES.getOrDefault(wanted, List.of())) {
                    found.add(new State(wanted, right, 0, at));
                }
            }
            for (State state2 : found) {
                if (current.add(state2)) {
                    work.add(state2);
                }
            }
        }
    }

    private void complain(int wrong, int token) {
        if (error == 0) {
            error = wrong;
            place = places.get(token);
        }
    }

    private void meaningOfProgram(int length) {
        Map<String, String> names = new HashMap<>();
        Map<String, Integer> counts = new HashMap<>();
        int begin = 0;
        while (begin < tokens.size() && error == 0) {
            int end = begin;
            while (!tokens.get(end).equals(";")) {
                end++;
            }
            String sort = tokens.get(begin);
            counts.merge(sort, 1, Integer::sum);
            if (counts.get(sort) > (sort.equals("signal") ? 8 : 12)) {
                complain(4, begin);
            }
            if (names.containsKey(tokens.get(begin + 1))) {
                complain(3, begin + 1);
            }
            meaning(begin + 3, end, names);
            names.put(tokens.get(begin + 1), sort);
            begin = end + 1;
        }
        if (error == 0 && !counts.containsKey("watch")) {
            error = 6;
            place = length;
        }
    }

    private void meaning(int begin, int end, Map<String, String> names) {
        for (int i = begin; i < end; i++) {
            String token = tokens.get(i);
            String before = i > begin ? tokens.get(i - 1) : "";
            if (terminal(token).equals("name")) {
                String sort = names.getOrDefault(token, "");
                if (!(before.equals("is") ? sort.equals("let") || sort.equals("watch") : sort.equals("signal") || sort.equals("value"))) {
                    complain(2, i);
                }
            }
            if (before.equals("[") && Integer.parseInt(token) > 1000) {
                complain(5, i);
            }
            if (before.equals("..")) {
                int high = Integer.parseInt(token);
                if (high < Integer.parseInt(tokens.get(i - 2)) || high > 1000) {
                    complain(5, i);
                }
            }
            if (before.equals("level") && Integer.parseInt(token) > 9) {
                complain(5, i);
            }
        }
    }
}
