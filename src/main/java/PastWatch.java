/** A bench for monitors of what has been. */
public final class PastWatch {
    private static final int MOST_BYTES = 1800;
    private static final int MOST_TOKENS = 400;
    private static final int LONGEST_WORD = 8;
    private static final int LONGEST_NUMBER = 6;
    private static final int DEEPEST = 10;
    private static final int MOST_STEPS = 120;
    private static final int MOST_SIGNALS = 8;
    private static final int MOST_OF_OTHERS = 12;
    private static final int MOST_NAMES = 44;
    private static final int MOST_MORE = 1000;
    private static final int MOST_BOUND = 1000;
    private static final int MOST_LEVEL = 9;
    private static final int UNTOLD_LEVEL = 5;
    private static final int COUNTS = 7;
    private static final int TOLDS = 5;
    private static final long FIRST_DIGEST = 383;
    private static final int NONE = -1;
    // Stands for "no bound": no two steps can lie this far apart.
    private static final int ENDLESS = 1000000;

    // A formula that is asked must not touch the one asked before it until it
    // is known to be right, so there are two areas of nodes for questions.
    private static final int FIRST_AREA = 400;
    private static final int SECOND_AREA = 800;
    private static final int MOST_NODES = 1200;

    private static final int ERROR_FORM = 1;
    private static final int ERROR_UNKNOWN = 2;
    private static final int ERROR_TWICE = 3;
    private static final int ERROR_TOO_MANY = 4;
    private static final int ERROR_NUMBER = 5;
    private static final int ERROR_NO_WATCH = 6;

    // The keywords have the numbers of their places in this text.
    private static final String KEYWORDS =
        "signal let value watch level not prev rise fall once always since and or implies is true false if then else old max min sum count at last time step";
    private static final int MOST_KEYWORDS = 30;

    // Sorts of tokens; a node has the sort of the token that tells what it does.
    private static final int SIGNAL = 0;
    private static final int LET = 1;
    private static final int VALUE = 2;
    private static final int WATCH = 3;
    private static final int LEVEL = 4;
    private static final int NOT = 5;
    private static final int PREV = 6;
    private static final int RISE = 7;
    private static final int FALL = 8;
    private static final int ONCE = 9;
    private static final int ALWAYS = 10;
    private static final int SINCE = 11;
    private static final int AND = 12;
    private static final int OR = 13;
    private static final int IMPLIES = 14;
    private static final int IS = 15;
    private static final int TRUE = 16;
    private static final int FALSE = 17;
    private static final int IF = 18;
    private static final int THEN = 19;
    private static final int ELSE = 20;
    private static final int OLD = 21;
    private static final int MAX = 22;
    private static final int MIN = 23;
    private static final int SUM = 24;
    private static final int COUNT = 25;
    private static final int AT = 26;
    private static final int LAST = 27;
    private static final int TIME = 28;
    private static final int STEP = 29;
    private static final int OPEN = 30;
    private static final int CLOSE = 31;
    private static final int OPEN_BRACE = 32;
    private static final int CLOSE_BRACE = 33;
    private static final int OPEN_BOUNDS = 34;
    private static final int CLOSE_BOUNDS = 35;
    private static final int SEMICOLON = 36;
    private static final int COLON = 37;
    private static final int BECOMES = 38;
    private static final int PLUS = 39;
    private static final int MINUS = 40;
    private static final int TIMES = 41;
    private static final int DIVIDED = 42;
    private static final int MODULO = 43;
    private static final int EQUAL = 44;
    private static final int UNEQUAL = 45;
    private static final int LESS = 46;
    private static final int GREATER = 47;
    private static final int AT_MOST = 48;
    private static final int AT_LEAST = 49;
    private static final int DOTS = 50;
    private static final int NAME = 51;
    private static final int NUMBER = 52;
    private static final int END = 53;
    private static final int BAD = 54;
    // A sort of node alone: the "-" in front.
    private static final int NEGATIVE = 55;

    private final Tape tape;
    private final Tokens tokens;
    private final Nodes nodes;
    private final Program program;
    private final Parser parser;
    private final History history;
    private final History kept;
    private final Reckoner reckoner;
    private final Longs settings;
    private int errorPlace;
    private boolean asked;
    private int askedRoot;
    private int askedFrom;
    private int askedEnd;

    public PastWatch() {
        tape = new Tape();
        tokens = new Tokens(tape);
        nodes = new Nodes();
        program = new Program();
        parser = new Parser(tokens, nodes, program);
        history = new History();
        kept = new History();
        reckoner = new Reckoner(nodes, history);
        settings = new Longs(MOST_SIGNALS);
        errorPlace = NONE;
        askedFrom = FIRST_AREA;
        askedEnd = FIRST_AREA;
    }

    // ---- programs

    public int feed(int a, int b, int c, int d, int e) throws IllegalStateException {
        if (tape.length > MOST_BYTES - 20) {
            throw new IllegalStateException("the tape is full");
        }
        tape.append(a);
        tape.append(b);
        tape.append(c);
        tape.append(d);
        tape.append(e);
        return tape.length;
    }

    public int trim(int n) throws IllegalArgumentException {
        if (n < 0 || n > tape.length) {
            throw new IllegalArgumentException("not 0 to the length of the tape");
        }
        tape.length = n;
        return n;
    }

    public int compile() {
        program.clear();
        asked = false;
        tokens.read();
        parser.readProgram();
        tape.length = 0;
        errorPlace = parser.wrongAt;
        if (parser.wrong == 0) {
            program.isThere = true;
            program.nodesEnd = nodes.next;
        } else {
            program.clear();
        }
        begin();
        return parser.wrong;
    }

    public int errorAt() {
        return errorPlace;
    }

    public int count(int what) throws IndexOutOfBoundsException {
        if (what < 0 || what >= COUNTS) {
            throw new IndexOutOfBoundsException("not 0 to 6");
        }
        return howMany(what);
    }

    // ---- steps

    public long set(int signal, long value) throws IndexOutOfBoundsException {
        if (!isItem(SIGNAL, signal)) {
            throw new IndexOutOfBoundsException("no such signal");
        }
        long before = settings.get(signal);
        settings.put(signal, value);
        return before;
    }

    public int tick(int more) throws IllegalArgumentException, IllegalStateException {
        if (more < 0 || more > MOST_MORE) {
            throw new IllegalArgumentException("not 0 to 1000");
        }
        if (!program.isThere || history.steps >= MOST_STEPS) {
            throw new IllegalStateException("no program, or no room for a step");
        }
        doStep(history.lastTime() + more);
        return broken(0);
    }

    public int back(int steps) throws IllegalArgumentException {
        if (steps < 0 || steps > history.steps) {
            throw new IllegalArgumentException("not 0 to the number of steps");
        }
        history.steps = steps;
        return history.lastTime();
    }

    public int restart() throws IllegalStateException {
        if (!program.isThere) {
            throw new IllegalStateException("no program");
        }
        begin();
        return howMany(WATCH);
    }

    public int keep() {
        kept.copy(history);
        return kept.steps;
    }

    public int replay() throws IllegalStateException {
        if (!program.isThere) {
            throw new IllegalStateException("no program");
        }
        begin();
        int signals = Math.min(kept.signals, history.signals);
        int good = 0;
        for (int step = 0; step < kept.steps; step++) {
            for (int signal = 0; signal < signals; signal++) {
                settings.put(signal, kept.numbers.get(signal, step));
            }
            doStep(kept.times.get(step));
            if (broken(0) == 0) {
                good++;
            }
        }
        return good;
    }

    public int time(int step) throws IndexOutOfBoundsException {
        if (!isStep(step)) {
            throw new IndexOutOfBoundsException("no such step");
        }
        return history.times.get(step);
    }

    // ---- what is told

    public long signal(int signal, int step) throws IndexOutOfBoundsException {
        if (!isItem(SIGNAL, signal) || !isStep(step)) {
            throw new IndexOutOfBoundsException("no such signal or step");
        }
        return history.numbers.get(signal, step);
    }

    public long value(int value, int step) throws IndexOutOfBoundsException {
        if (!isItem(VALUE, value) || !isStep(step)) {
            throw new IndexOutOfBoundsException("no such value or step");
        }
        return reckoned(VALUE, value, step);
    }

    public boolean let(int let, int step) throws IndexOutOfBoundsException {
        if (!isItem(LET, let) || !isStep(step)) {
            throw new IndexOutOfBoundsException("no such let or step");
        }
        return reckoned(LET, let, step) != 0;
    }

    public boolean watch(int watch, int step) throws IndexOutOfBoundsException {
        if (!isItem(WATCH, watch) || !isStep(step)) {
            throw new IndexOutOfBoundsException("no such watch or step");
        }
        return reckoned(WATCH, watch, step) != 0;
    }

    public int told(int watch, int what) throws IndexOutOfBoundsException {
        if (!isItem(WATCH, watch) || what < 0 || what >= TOLDS) {
            throw new IndexOutOfBoundsException("no such watch, or not 0 to 4");
        }
        return toldOf(watch, what);
    }

    public int alarms(int level) throws IllegalArgumentException {
        if (level < 0 || level > MOST_LEVEL) {
            throw new IllegalArgumentException("not 0 to 9");
        }
        return broken(level);
    }

    public int why(int watch, int step, boolean isStep) throws IndexOutOfBoundsException, IllegalStateException {
        if (!isItem(WATCH, watch) || !isStep(step)) {
            throw new IndexOutOfBoundsException("no such watch or step");
        }
        if (reckoned(WATCH, watch, step) != 0) {
            throw new IllegalStateException("it holds there");
        }
        reckoner.findReason(program.rootOf(WATCH, watch), step);
        return isStep ? reckoner.reasonStep : nodes.starts.get(reckoner.reasonNode);
    }

    public int differ(int a, int b) throws IndexOutOfBoundsException {
        if (!isItem(WATCH, a) || !isItem(WATCH, b)) {
            throw new IndexOutOfBoundsException("no such watch");
        }
        for (int step = 0; step < history.steps; step++) {
            if (reckoned(WATCH, a, step) != reckoned(WATCH, b, step)) {
                return step;
            }
        }
        return NONE;
    }

    public double share(int watch) throws IndexOutOfBoundsException {
        if (!isItem(WATCH, watch)) {
            throw new IndexOutOfBoundsException("no such watch");
        }
        int steps = history.steps;
        if (steps == 0) {
            return 1.0;
        }
        return (double) (steps - misses(watch)) / (double) steps;
    }

    // ---- questions

    public int ask() {
        int area = askedFrom == FIRST_AREA ? SECOND_AREA : FIRST_AREA;
        tokens.read();
        int root = parser.readQuestion(area);
        tape.length = 0;
        errorPlace = parser.wrongAt;
        if (parser.wrong != 0) {
            return parser.wrong;
        }
        asked = true;
        askedRoot = root;
        askedFrom = area;
        askedEnd = nodes.next;
        for (int step = 0; step < history.steps; step++) {
            reckoner.reckon(askedFrom, askedEnd, step);
        }
        return 0;
    }

    public boolean answer(int step) throws IndexOutOfBoundsException, IllegalStateException {
        if (!isStep(step)) {
            throw new IndexOutOfBoundsException("no such step");
        }
        if (!asked) {
            throw new IllegalStateException("no formula was asked");
        }
        return reckoner.cells.get(askedRoot, step) != 0;
    }

    public long digest() {
        long sum = FIRST_DIGEST;
        for (int what = 0; what < COUNTS; what++) {
            sum = sum * 31 + howMany(what);
        }
        for (int step = 0; step < history.steps; step++) {
            sum = digestStep(sum, step);
        }
        for (int watch = 0; watch < howMany(WATCH); watch++) {
            for (int what = 0; what < TOLDS; what++) {
                sum = sum * 31 + toldOf(watch, what);
            }
        }
        for (int signal = 0; signal < howMany(SIGNAL); signal++) {
            sum = sum * 31 + settings.get(signal);
        }
        return sum;
    }

    // ---- inside

    private long digestStep(long before, int step) {
        long sum = before * 31 + history.times.get(step);
        for (int signal = 0; signal < howMany(SIGNAL); signal++) {
            sum = sum * 31 + history.numbers.get(signal, step);
        }
        sum = digestSort(sum, VALUE, step);
        sum = digestSort(sum, LET, step);
        return digestSort(sum, WATCH, step);
    }

    private long digestSort(long before, int sort, int step) {
        long sum = before;
        for (int number = 0; number < howMany(sort); number++) {
            sum = sum * 31 + reckoned(sort, number, step);
        }
        return sum;
    }

    private int howMany(int what) {
        switch (what) {
            case 4: return history.steps;
            case 5: return kept.steps;
            case 6: return tape.length;
            default: return program.counts.get(what);
        }
    }

    private boolean isItem(int sort, int number) {
        return number >= 0 && number < program.counts.get(sort);
    }

    private boolean isStep(int step) {
        return step >= 0 && step < history.steps;
    }

    // What a let, value or watch is at a step; 1 and 0 for what holds or does not.
    private long reckoned(int sort, int number, int step) {
        return reckoner.cells.get(program.rootOf(sort, number), step);
    }

    private void begin() {
        history.steps = 0;
        history.signals = howMany(SIGNAL);
        for (int signal = 0; signal < MOST_SIGNALS; signal++) {
            settings.put(signal, program.firsts.get(signal));
        }
    }

    private void doStep(int time) {
        int step = history.steps;
        history.times.put(step, time);
        for (int signal = 0; signal < history.signals; signal++) {
            history.numbers.put(signal, step, settings.get(signal));
        }
        history.steps = step + 1;
        reckoner.reckon(0, program.nodesEnd, step);
        if (asked) {
            reckoner.reckon(askedFrom, askedEnd, step);
        }
    }

    // How many watches of at least this level do not hold at the last step.
    private int broken(int level) {
        int broken = 0;
        if (history.steps > 0) {
            for (int watch = 0; watch < howMany(WATCH); watch++) {
                if (program.levels.get(watch) >= level && reckoned(WATCH, watch, history.steps - 1) == 0) {
                    broken++;
                }
            }
        }
        return broken;
    }

    private int toldOf(int watch, int what) {
        switch (what) {
            case 0: return program.levels.get(watch);
            case 1: return misses(watch);
            case 2: return firstMiss(watch);
            case 3: return longestMiss(watch);
            default: return latestMiss(watch);
        }
    }

    private int misses(int watch) {
        int misses = 0;
        for (int step = 0; step < history.steps; step++) {
            if (reckoned(WATCH, watch, step) == 0) {
                misses++;
            }
        }
        return misses;
    }

    private int firstMiss(int watch) {
        for (int step = 0; step < history.steps; step++) {
            if (reckoned(WATCH, watch, step) == 0) {
                return step;
            }
        }
        return NONE;
    }

    private int longestMiss(int watch) {
        int longest = 0;
        int row = 0;
        for (int step = 0; step < history.steps; step++) {
            row = reckoned(WATCH, watch, step) == 0 ? row + 1 : 0;
            longest = Math.max(longest, row);
        }
        return longest;
    }

    private int latestMiss(int watch) {
        int row = 0;
        for (int step = 0; step < history.steps; step++) {
            row = reckoned(WATCH, watch, step) == 0 ? row + 1 : 0;
        }
        return row;
    }

    // ---- rows, which look at every index before they use it

    private static final class Ints {
        private final int[] cells;

        Ints(int length) {
            cells = new int[Math.max(0, length)];
        }

        int get(int index) {
            return index >= 0 && index < cells.length ? cells[index] : 0;
        }

        void put(int index, int number) {
            if (index >= 0 && index < cells.length) {
                cells[index] = number;
            }
        }
    }

    private static final class Longs {
        private final long[] cells;

        Longs(int length) {
            cells = new long[Math.max(0, length)];
        }

        long get(int index) {
            return index >= 0 && index < cells.length ? cells[index] : 0;
        }

        void put(int index, long number) {
            if (index >= 0 && index < cells.length) {
                cells[index] = number;
            }
        }
    }

    // A row of numbers for each line, a number for each step; 0 ahead of the first step.
    private static final class Table {
        private final long[][] rows;

        Table(int lines) {
            rows = new long[Math.max(0, lines)][MOST_STEPS];
        }

        long get(int line, int step) {
            if (line < 0 || line >= rows.length) {
                return 0;
            }
            long[] row = rows[line];
            return row != null && step >= 0 && step < row.length ? row[step] : 0;
        }

        void put(int line, int step, long number) {
            if (line >= 0 && line < rows.length) {
                long[] row = rows[line];
                if (row != null && step >= 0 && step < row.length) {
                    row[step] = number;
                }
            }
        }
    }

    private static final class Tape {
        private final Ints bytes = new Ints(MOST_BYTES);
        private int length;

        void append(int number) {
            for (int shift = 24; shift >= 0; shift -= 8) {
                bytes.put(length, number >> shift & 255);
                length++;
            }
        }

        int byteAt(int place) {
            return place < length ? bytes.get(place) : NONE;
        }
    }

    // The times of steps, and the values of the signals at them.
    private static final class History {
        private final Ints times = new Ints(MOST_STEPS);
        private final Table numbers = new Table(MOST_SIGNALS);
        private int steps;
        private int signals;

        int lastTime() {
            return steps > 0 ? times.get(steps - 1) : 0;
        }

        void copy(History other) {
            steps = other.steps;
            signals = other.signals;
            for (int step = 0; step < steps; step++) {
                times.put(step, other.times.get(step));
                for (int signal = 0; signal < signals; signal++) {
                    numbers.put(signal, step, other.numbers.get(signal, step));
                }
            }
        }
    }

    // The tape cut into tokens. Behind the last token of a tape stands END;
    // BAD is what is no token, or one too many.
    private static final class Tokens {
        private final Tape tape;
        private final Longs keywords;
        private final Ints sorts;
        private final Ints starts;
        // The number, or the bytes of the word as one number.
        private final Longs worths;
        private int place;

        Tokens(Tape tape) {
            this.tape = tape;
            keywords = packKeywords();
            sorts = new Ints(MOST_TOKENS + 1);
            starts = new Ints(MOST_TOKENS + 1);
            worths = new Longs(MOST_TOKENS + 1);
        }

        private static Longs packKeywords() {
            Longs packed = new Longs(MOST_KEYWORDS);
            long word = 0;
            int number = 0;
            for (int i = 0; i < KEYWORDS.length(); i++) {
                char sign = KEYWORDS.charAt(i);
                if (sign == ' ') {
                    packed.put(number, word);
                    number++;
                    word = 0;
                } else {
                    word = word * 256 + sign;
                }
            }
            packed.put(number, word);
            return packed;
        }

        void read() {
            place = 0;
            boolean goesOn = true;
            for (int token = 0; goesOn && token <= MOST_TOKENS; token++) {
                skipBlanks();
                starts.put(token, place);
                int sort = readToken(token);
                if (token == MOST_TOKENS && sort != END) {
                    sort = BAD;
                }
                sorts.put(token, sort);
                goesOn = sort != END && sort != BAD;
            }
        }

        private void skipBlanks() {
            while (place < tape.length && (tape.byteAt(place) == ' ' || tape.byteAt(place) == '\n')) {
                place++;
            }
        }

        private int readToken(int token) {
            int here = tape.byteAt(place);
            if (here == NONE) {
                return END;
            }
            if (isLetter(here)) {
                return readWord(token);
            }
            return isDigit(here) ? readNumber(token) : readSymbol(here);
        }

        private int readWord(int token) {
            int start = place;
            long word = 0;
            while (place < tape.length && (isLetter(tape.byteAt(place)) || isDigit(tape.byteAt(place)))) {
                word = word * 256 + tape.byteAt(place);
                place++;
            }
            worths.put(token, word);
            return place - start > LONGEST_WORD ? BAD : sortOfWord(word);
        }

        private int sortOfWord(long word) {
            for (int keyword = 0; keyword < MOST_KEYWORDS; keyword++) {
                if (keywords.get(keyword) == word) {
                    return keyword;
                }
            }
            return NAME;
        }

        private int readNumber(int token) {
            int start = place;
            long number = 0;
            while (place < tape.length && isDigit(tape.byteAt(place))) {
                number = number * 10 + (tape.byteAt(place) - '0');
                place++;
            }
            worths.put(token, number);
            return place - start > LONGEST_NUMBER ? BAD : NUMBER;
        }

        private int readSymbol(int here) {
            int sort = symbolOfTwo(here, tape.byteAt(place + 1));
            if (sort != BAD) {
                place += 2;
                return sort;
            }
            place++;
            return symbolOfOne(here);
        }

        private static int symbolOfTwo(int here, int next) {
            if (next == '=') {
                switch (here) {
                    case ':': return BECOMES;
                    case '<': return AT_MOST;
                    case '>': return AT_LEAST;
                    default: return BAD;
                }
            }
            if (here == '<' && next == '>') {
                return UNEQUAL;
            }
            return here == '.' && next == '.' ? DOTS : BAD;
        }

        private static int symbolOfOne(int here) {
            switch (here) {
                case '(': return OPEN;
                case ')': return CLOSE;
                case '{': return OPEN_BRACE;
                case '}': return CLOSE_BRACE;
                case '[': return OPEN_BOUNDS;
                case ']': return CLOSE_BOUNDS;
                case ';': return SEMICOLON;
                case ':': return COLON;
                case '=': return EQUAL;
                case '+': return PLUS;
                case '-': return MINUS;
                case '*': return TIMES;
                case '/': return DIVIDED;
                case '%': return MODULO;
                case '<': return LESS;
                case '>': return GREATER;
                default: return BAD;
            }
        }

        private static boolean isLetter(int sign) {
            return sign >= 'a' && sign <= 'z';
        }

        private static boolean isDigit(int sign) {
            return sign >= '0' && sign <= '9';
        }
    }

    // The operators and operands of formulas and expressions. A node stands
    // behind those that it needs, so that they are reckoned ahead of it.
    private static final class Nodes {
        private final Ints sorts = new Ints(MOST_NODES);
        private final Ints starts = new Ints(MOST_NODES);
        private final Ints firsts = new Ints(MOST_NODES);
        private final Ints seconds = new Ints(MOST_NODES);
        private final Ints thirds = new Ints(MOST_NODES);
        private final Ints lows = new Ints(MOST_NODES);
        private final Ints highs = new Ints(MOST_NODES);
        private int next;
        private int end;

        void beginAt(int area) {
            next = area;
            end = area + MOST_TOKENS;
        }

        int add(int sort, int start, int first, int second) {
            if (next >= end) {
                return NONE;
            }
            int node = next;
            next++;
            sorts.put(node, sort);
            starts.put(node, start);
            firsts.put(node, first);
            seconds.put(node, second);
            thirds.put(node, NONE);
            lows.put(node, 0);
            highs.put(node, ENDLESS);
            return node;
        }

        void bound(int node, int low, int high) {
            lows.put(node, low);
            highs.put(node, high);
        }
    }

    // The names of a program, and what they stand for.
    private static final class Program {
        private final Longs words = new Longs(MOST_NAMES);
        private final Ints sorts = new Ints(MOST_NAMES);
        // The number of a signal; of all others the node to look at.
        private final Ints targets = new Ints(MOST_NAMES);
        private final Ints counts = new Ints(WATCH + 1);
        private final Ints roots = new Ints((WATCH + 1) * MOST_OF_OTHERS);
        private final Longs firsts = new Longs(MOST_SIGNALS);
        private final Ints levels = new Ints(MOST_OF_OTHERS);
        private int names;
        private boolean isThere;
        private int nodesEnd;

        void clear() {
            names = 0;
            isThere = false;
            nodesEnd = 0;
            for (int sort = SIGNAL; sort <= WATCH; sort++) {
                counts.put(sort, 0);
            }
        }

        boolean isFull(int sort) {
            return counts.get(sort) >= (sort == SIGNAL ? MOST_SIGNALS : MOST_OF_OTHERS);
        }

        // The place of a word among the names, NONE if it is not there.
        int find(long word) {
            for (int name = 0; name < names; name++) {
                if (words.get(name) == word) {
                    return name;
                }
            }
            return NONE;
        }

        int sortOf(int name) {
            return name == NONE ? NONE : sorts.get(name);
        }

        void add(long word, int sort, int target) {
            words.put(names, word);
            sorts.put(names, sort);
            targets.put(names, target);
            names++;
            int number = counts.get(sort);
            roots.put(sort * MOST_OF_OTHERS + number, target);
            counts.put(sort, number + 1);
        }

        int rootOf(int sort, int number) {
            return roots.get(sort * MOST_OF_OTHERS + number);
        }
    }

    // Reads tokens by the grammar. Behind an error of form the token at hand
    // is BAD for good, which fits nowhere: so all that is under way ends.
    private static final class Parser {
        private final Tokens tokens;
        private final Nodes nodes;
        private final Program program;
        // The token at hand.
        private int at;
        private int sort;
        private int place;
        private long worth;
        // The first error, and whether it is one of form.
        private int wrong;
        private int wrongAt;
        private boolean isBroken;
        // The bounds read last.
        private int low;
        private int high;

        Parser(Tokens tokens, Nodes nodes, Program program) {
            this.tokens = tokens;
            this.nodes = nodes;
            this.program = program;
            wrongAt = NONE;
        }

        void readProgram() {
            beginAt(0);
            readItem();
            for (int items = 1; items < MOST_TOKENS && sort != END && !isBroken; items++) {
                readItem();
            }
            if (program.counts.get(WATCH) == 0) {
                complain(ERROR_NO_WATCH, place);
            }
        }

        // Returns the node of the formula.
        int readQuestion(int area) {
            beginAt(area);
            int root = formula(0);
            if (sort != END) {
                fail();
            }
            return root;
        }

        private void beginAt(int area) {
            nodes.beginAt(area);
            wrong = 0;
            wrongAt = NONE;
            isBroken = false;
            at = NONE;
            advance();
        }

        private void advance() {
            if (!isBroken) {
                at++;
                sort = tokens.sorts.get(at);
                place = tokens.starts.get(at);
                worth = tokens.worths.get(at);
            }
        }

        // An error of form goes ahead of errors of meaning, wherever these are.
        private void fail() {
            if (!isBroken) {
                isBroken = true;
                wrong = ERROR_FORM;
                wrongAt = place;
                sort = BAD;
            }
        }

        private void complain(int error, int errorPlace) {
            if (wrong == 0) {
                wrong = error;
                wrongAt = errorPlace;
            }
        }

        private void expect(int wanted) {
            if (sort == wanted) {
                advance();
            } else {
                fail();
            }
        }

        // Goes past a token behind which the depth is greater by 1.
        private void deepen(int depth) {
            if (depth < DEEPEST) {
                advance();
            } else {
                fail();
            }
        }

        private void readItem() {
            int item = sort;
            if (item < SIGNAL || item > WATCH) {
                fail();
                return;
            }
            if (program.isFull(item)) {
                complain(ERROR_TOO_MANY, place);
            }
            advance();
            long word = worth;
            readNewName();
            expect(item == WATCH ? COLON : item == LET ? BECOMES : EQUAL);
            int target = item == SIGNAL ? readFirstValue() : item == VALUE ? expression(0) : formula(0);
            if (item == WATCH) {
                readLevel();
            }
            expect(SEMICOLON);
            if (wrong == 0) {
                program.add(word, item, target);
            }
        }

        private void readNewName() {
            if (sort == NAME && program.find(worth) != NONE) {
                complain(ERROR_TWICE, place);
            }
            expect(NAME);
        }

        // Returns the number of the signal.
        private int readFirstValue() {
            int signal = program.counts.get(SIGNAL);
            boolean isNegative = sort == MINUS;
            if (isNegative) {
                advance();
            }
            program.firsts.put(signal, isNegative ? -worth : worth);
            expect(NUMBER);
            return signal;
        }

        private void readLevel() {
            int level = UNTOLD_LEVEL;
            if (sort == LEVEL) {
                advance();
                level = (int) worth;
                if (sort == NUMBER && level > MOST_LEVEL) {
                    complain(ERROR_NUMBER, place);
                }
                expect(NUMBER);
            }
            program.levels.put(program.counts.get(WATCH), level);
        }

        // Reads bounds into low and high, if there are some.
        private void readBounds() {
            low = 0;
            high = ENDLESS;
            if (sort == OPEN_BOUNDS) {
                advance();
                low = (int) worth;
                if (sort == NUMBER && low > MOST_BOUND) {
                    complain(ERROR_NUMBER, place);
                }
                expect(NUMBER);
                expect(DOTS);
                high = (int) worth;
                if (sort == NUMBER && (high < low || high > MOST_BOUND)) {
                    complain(ERROR_NUMBER, place);
                }
                expect(NUMBER);
                expect(CLOSE_BOUNDS);
            }
        }

        // f implies g implies h is the same as {f and g} implies h, and has the
        // same reason; read so, a long row of them needs no recursion.
        private int formula(int depth) {
            int start = place;
            int node = either(depth);
            for (int more = 0; more < MOST_TOKENS && sort == IMPLIES; more++) {
                advance();
                int second = either(depth);
                node = nodes.add(sort == IMPLIES ? AND : IMPLIES, start, node, second);
            }
            return node;
        }

        private int either(int depth) {
            int start = place;
            int node = both(depth);
            for (int more = 0; more < MOST_TOKENS && sort == OR; more++) {
                advance();
                int second = both(depth);
                node = nodes.add(OR, start, node, second);
            }
            return node;
        }

        private int both(int depth) {
            int start = place;
            int node = since(depth);
            for (int more = 0; more < MOST_TOKENS && sort == AND; more++) {
                advance();
                int second = since(depth);
                node = nodes.add(AND, start, node, second);
            }
            return node;
        }

        private int since(int depth) {
            int start = place;
            int first = one(depth);
            if (sort != SINCE) {
                return first;
            }
            advance();
            readBounds();
            int from = low;
            int to = high;
            int second = one(depth);
            int node = nodes.add(SINCE, start, first, second);
            nodes.bound(node, from, to);
            return node;
        }

        private int one(int depth) {
            switch (sort) {
                case NOT:
                case PREV:
                case RISE:
                case FALL:
                case ONCE:
                case ALWAYS:
                    return prefixed(depth);
                case OPEN_BRACE:
                    return braced(depth);
                case TRUE:
                case FALSE:
                    return single(0);
                case IS:
                    return named();
                default:
                    return compare(depth);
            }
        }

        private int prefixed(int depth) {
            int prefix = sort;
            int start = place;
            deepen(depth);
            low = 0;
            high = ENDLESS;
            if (prefix == ONCE || prefix == ALWAYS) {
                readBounds();
            }
            int from = low;
            int to = high;
            int first = one(depth + 1);
            int node = nodes.add(prefix, start, first, NONE);
            nodes.bound(node, from, to);
            return node;
        }

        private int braced(int depth) {
            if (sort != OPEN_BRACE) {
                fail();
                return NONE;
            }
            deepen(depth);
            int node = formula(depth + 1);
            expect(CLOSE_BRACE);
            return node;
        }

        // A node of one token.
        private int single(int first) {
            int node = nodes.add(sort, place, first, NONE);
            advance();
            return node;
        }

        // What is x holds where the formula of x does, for the same reason: so
        // its node is the node of that formula.
        private int named() {
            advance();
            int name = program.find(worth);
            int item = program.sortOf(name);
            if (sort == NAME && item != LET && item != WATCH) {
                complain(ERROR_UNKNOWN, place);
            }
            expect(NAME);
            return program.targets.get(name);
        }

        private int compare(int depth) {
            int start = place;
            int first = expression(depth);
            int compared = sort;
            if (compared < EQUAL || compared > AT_LEAST) {
                fail();
                return NONE;
            }
            advance();
            int second = expression(depth);
            return nodes.add(compared, start, first, second);
        }

        private int expression(int depth) {
            int start = place;
            int node = product(depth);
            for (int more = 0; more < MOST_TOKENS && (sort == PLUS || sort == MINUS); more++) {
                int operator = sort;
                advance();
                int second = product(depth);
                node = nodes.add(operator, start, node, second);
            }
            return node;
        }

        private int product(int depth) {
            int start = place;
            int node = factor(depth);
            for (int more = 0; more < MOST_TOKENS && sort >= TIMES && sort <= MODULO; more++) {
                int operator = sort;
                advance();
                int second = factor(depth);
                node = nodes.add(operator, start, node, second);
            }
            return node;
        }

        private int factor(int depth) {
            switch (sort) {
                case NUMBER:
                    return single((int) worth);
                case TIME:
                case STEP:
                    return single(0);
                case NAME:
                    return variable();
                case OPEN:
                    return bracketed(depth);
                case MINUS:
                case OLD:
                case MAX:
                case MIN:
                case SUM:
                    return prefixedFactor(depth);
                case COUNT:
                case LAST:
                case AT:
                case IF:
                    return factorOfFormula(depth);
                default:
                    fail();
                    return NONE;
            }
        }

        // The node of a name of a value is that of the expression of the value.
        private int variable() {
            int name = program.find(worth);
            int item = program.sortOf(name);
            if (item == SIGNAL) {
                int signal = nodes.add(SIGNAL, place, program.targets.get(name), NONE);
                advance();
                return signal;
            }
            if (item != VALUE) {
                complain(ERROR_UNKNOWN, place);
            }
            advance();
            return program.targets.get(name);
        }

        private int bracketed(int depth) {
            deepen(depth);
            int node = expression(depth + 1);
            expect(CLOSE);
            return node;
        }

        private int prefixedFactor(int depth) {
            int prefix = sort == MINUS ? NEGATIVE : sort;
            int start = place;
            deepen(depth);
            int first = factor(depth + 1);
            return nodes.add(prefix, start, first, NONE);
        }

        // The operands behind "}", then and else are as deep as what the braces
        // hold: where they would be too deep, the "{" has been refused already.
        private int factorOfFormula(int depth) {
            int operator = sort;
            int start = place;
            advance();
            int first = braced(depth);
            int second = NONE;
            int third = NONE;
            if (operator == AT) {
                second = factor(depth + 1);
            }
            if (operator == IF) {
                expect(THEN);
                second = factor(depth + 1);
                expect(ELSE);
                third = factor(depth + 1);
            }
            int node = nodes.add(operator, start, first, second);
            nodes.thirds.put(node, third);
            return node;
        }
    }

    // Reckons nodes at steps, and finds reasons.
    private static final class Reckoner {
        private final Nodes nodes;
        private final History history;
        private final Table cells = new Table(MOST_NODES);
        private int reasonNode;
        private int reasonStep;

        Reckoner(Nodes nodes, History history) {
            this.nodes = nodes;
            this.history = history;
        }

        void reckon(int from, int end, int step) {
            for (int node = from; node < end; node++) {
                cells.put(node, step, isFormula(nodes.sorts.get(node)) ? (holds(node, step) ? 1 : 0) : number(node, step));
            }
        }

        private static boolean isFormula(int sort) {
            return sort >= NOT && sort <= FALSE || sort >= EQUAL && sort <= AT_LEAST;
        }

        private long first(int node, int step) {
            return cells.get(nodes.firsts.get(node), step);
        }

        private long second(int node, int step) {
            return cells.get(nodes.seconds.get(node), step);
        }

        private boolean holds(int node, int step) {
            long a = first(node, step);
            long b = second(node, step);
            boolean before = first(node, step - 1) != 0;
            switch (nodes.sorts.get(node)) {
                case TRUE: return true;
                case NOT: return a == 0;
                case AND: return a != 0 && b != 0;
                case OR: return a != 0 || b != 0;
                case IMPLIES: return a == 0 || b != 0;
                case PREV: return before;
                case RISE: return a != 0 && !before;
                case FALL: return a == 0 && before;
                case ONCE: return once(node, step);
                case ALWAYS: return always(node, step);
                case SINCE: return since(node, step);
                case EQUAL: return a == b;
                case UNEQUAL: return a != b;
                case LESS: return a < b;
                case GREATER: return a > b;
                case AT_MOST: return a <= b;
                case AT_LEAST: return a >= b;
                default: return false;
            }
        }

        private boolean isEndless(int node) {
            return nodes.highs.get(node) == ENDLESS;
        }

        private int age(int step, int past) {
            return history.times.get(step) - history.times.get(past);
        }

        private boolean once(int node, int step) {
            if (isEndless(node)) {
                return first(node, step) != 0 || cells.get(node, step - 1) != 0;
            }
            int high = nodes.highs.get(node);
            int low = nodes.lows.get(node);
            for (int past = step; past >= 0 && age(step, past) <= high; past--) {
                if (age(step, past) >= low && first(node, past) != 0) {
                    return true;
                }
            }
            return false;
        }

        private boolean always(int node, int step) {
            if (isEndless(node)) {
                return first(node, step) != 0 && (step == 0 || cells.get(node, step - 1) != 0);
            }
            return firstBreak(node, step) == NONE;
        }

        // The first step meant by an always at which its operand does not hold.
        private int firstBreak(int node, int step) {
            int high = nodes.highs.get(node);
            int low = nodes.lows.get(node);
            for (int past = 0; past <= step; past++) {
                int age = age(step, past);
                if (age >= low && age <= high && first(node, past) == 0) {
                    return past;
                }
            }
            return NONE;
        }

        private boolean since(int node, int step) {
            if (isEndless(node)) {
                return second(node, step) != 0 || first(node, step) != 0 && cells.get(node, step - 1) != 0;
            }
            int high = nodes.highs.get(node);
            int low = nodes.lows.get(node);
            for (int past = step; past >= 0 && age(step, past) <= high; past--) {
                if (age(step, past) >= low && second(node, past) != 0) {
                    return true;
                }
                if (first(node, past) == 0) {
                    return false;
                }
            }
            return false;
        }

        private long number(int node, int step) {
            long a = first(node, step);
            long b = second(node, step);
            long own = cells.get(node, step - 1);
            switch (nodes.sorts.get(node)) {
                case NUMBER: return nodes.firsts.get(node);
                case SIGNAL: return history.numbers.get(nodes.firsts.get(node), step);
                case TIME: return history.times.get(step);
                case STEP: return step;
                case PLUS: return a + b;
                case MINUS: return a - b;
                case TIMES: return a * b;
                case DIVIDED: return b == 0 ? 0 : a / b;
                case MODULO: return b == 0 ? 0 : a % b;
                case NEGATIVE: return -a;
                case OLD: return first(node, step - 1);
                case MAX: return step == 0 ? a : Math.max(own, a);
                case MIN: return step == 0 ? a : Math.min(own, a);
                case SUM: return own + a;
                case COUNT: return own + a;
                case LAST: return a != 0 ? 0 : ageOfLast(own, step);
                case AT: return a != 0 ? b : own;
                case IF: return a != 0 ? b : cells.get(nodes.thirds.get(node), step);
                default: return 0;
            }
        }

        private long ageOfLast(long before, int step) {
            return step == 0 || before < 0 ? -1 : before + age(step, step - 1);
        }

        void findReason(int node, int step) {
            reasonNode = node;
            reasonStep = step;
            boolean goesOn = true;
            for (int parts = 0; goesOn && parts < MOST_NODES; parts++) {
                goesOn = goToPart();
            }
        }

        // Goes on to the part that has the reason; false if there is none.
        private boolean goToPart() {
            int node = reasonNode;
            int first = nodes.firsts.get(node);
            switch (nodes.sorts.get(node)) {
                case AND:
                    reasonNode = cells.get(first, reasonStep) == 0 ? first : nodes.seconds.get(node);
                    return true;
                case OR:
                case IMPLIES:
                    reasonNode = nodes.seconds.get(node);
                    return true;
                case ALWAYS:
                    reasonStep = firstBreak(node, reasonStep);
                    reasonNode = first;
                    return true;
                case PREV:
                    if (reasonStep == 0) {
                        return false;
                    }
                    reasonStep--;
                    reasonNode = first;
                    return true;
                default:
                    return false;
            }
        }
    }
}
