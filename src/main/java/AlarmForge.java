/**
 * A finder of run-time errors in small programs: a text is parsed, run with inputs as they are, and
 * gone through without inputs, with ranges of all values that may be.
 */
public final class AlarmForge {
    private static final int TEXT_MOST = 200;
    private static final int INPUTS_MOST = 8;
    private static final int LIMIT_MOST = 500;
    private static final int CHOICE_MOST = 5;

    private static final int VARIABLES = 6;
    private static final int CELLS = 8;
    private static final int CELLS_EACH = 4;

    private static final int BLOCK_DEEPEST = 3;
    private static final int FACTOR_DEEPEST = 10;
    private static final int HEIGHT_MOST = 16;
    // The shortest STATEMENT, as in a=1; has four characters.
    private static final int STATEMENTS_MOST = TEXT_MOST / 4;
    // At each depth a left part of a sum and one of a product may wait; then one FACTOR, the left
    // side of a COND or an index, and one place that operators use as their second one.
    private static final int STACK_MOST = 2 * (FACTOR_DEEPEST + 1) + 3;

    // TOKENS of one sign are told by that sign.
    private static final int NO_TOKEN = -1;
    private static final int END = 0;
    private static final int NUMERAL = 1;
    private static final int VARIABLE = 2;
    private static final int ARRAY = 3;
    private static final int IF = 4;
    private static final int ELSE = 5;
    private static final int WHILE = 6;
    private static final int ASSERT = 7;
    private static final int IN = 8;
    private static final int EQUAL = 256;
    private static final int UNEQUAL = 257;
    private static final int AT_MOST = 258;
    private static final int BELOW = '<';
    private static final int NEGATE = 259;

    private static final int UNSET = 1;
    private static final int INDEX = 2;
    private static final int OVER = 3;
    private static final int ZERO = 4;
    private static final int FALSE = 5;
    private static final int KIND_WEIGHT = 1024;

    private static final int STOPPED = -5;
    private static final int NO_FAULT = -2;

    private static final long INT_LEAST = Integer.MIN_VALUE;
    private static final long INT_MOST = Integer.MAX_VALUE;
    private static final long MODULUS_MOST = 65536;
    private static final int[] WIDE_STEPS = {-100, -10, -1, 0, 1, 10, 100};
    // The greatest longs need some ninety divisions to come to their common divisor.
    private static final int DIVISIONS_MOST = 100;
    private static final int PATIENCE = 20;
    // Beyond PATIENCE all is as wide as can be but for six flags, so no while comes near this.
    private static final int PASSES_MOST = 100;

    private int unroll;
    private int narrow;
    private final Parser parser;
    private final Reader reader;
    private Program program;
    private Program spare;
    private boolean parsed;
    private final Runner runner;
    private final Analyser analyser;

    public AlarmForge() {
        unroll = 1;
        narrow = 1;
        parser = new Parser();
        reader = parser.reader;
        program = new Program();
        spare = new Program();
        runner = new Runner();
        analyser = new Analyser();
    }

    public int text(long w) throws IllegalArgumentException, IllegalStateException {
        int more = 0;
        for (int shift = 56; shift >= 0; shift -= 8) {
            int c = byteAt(w, shift);
            if (c != 0 && !isCharacter(c)) {
                throw new IllegalArgumentException();
            }
            more += c == 0 ? 0 : 1;
        }
        if (reader.length + more > TEXT_MOST) {
            throw new IllegalStateException();
        }
        for (int shift = 56; shift >= 0; shift -= 8) {
            int c = byteAt(w, shift);
            if (c != 0) {
                reader.append((char) c);
            }
        }
        return reader.length;
    }

    private static int byteAt(long w, int shift) {
        return (int) (w >>> shift) & 255;
    }

    private static boolean isCharacter(int c) {
        return c == 10 || c >= 32 && c <= 126;
    }

    public int clear() {
        int had = reader.length;
        reader.length = 0;
        return had;
    }

    public int parse() throws IllegalArgumentException {
        parser.readProgram(spare);
        Program old = program;
        program = spare;
        spare = old;
        parsed = true;
        return program.statementCount;
    }

    public int where() {
        return parser.fault;
    }

    public int choose(int what, int n) throws IllegalArgumentException {
        if (what < 0 || what > 1 || n < 0 || n > CHOICE_MOST) {
            throw new IllegalArgumentException();
        }
        int old;
        if (what == 0) {
            old = unroll;
            unroll = n;
        } else {
            old = narrow;
            narrow = n;
        }
        return old;
    }

    public int input(int v) throws IllegalStateException {
        if (runner.inputCount >= INPUTS_MOST) {
            throw new IllegalStateException();
        }
        runner.addInput(v);
        return runner.inputCount;
    }

    public int forget() {
        int had = runner.inputCount;
        runner.inputCount = 0;
        return had;
    }

    public int run(int limit) throws IllegalArgumentException, IllegalStateException,
            IndexOutOfBoundsException, ArithmeticException, UnsupportedOperationException {
        if (limit < 0 || limit > LIMIT_MOST) {
            throw new IllegalArgumentException();
        }
        if (!parsed) {
            throw new IllegalStateException();
        }
        return runner.doProgram(program, limit) ? 0 : STOPPED;
    }

    public int ran(int what) throws IllegalArgumentException {
        if (what == 0) {
            return runner.error;
        }
        if (what == 1) {
            return runner.begun;
        }
        if (what == 2) {
            return runner.taken;
        }
        if (what >= 10 && what < 10 + VARIABLES) {
            return runner.variables[what - 10];
        }
        if (what >= 20 && what < 20 + CELLS) {
            return runner.cells[what - 20];
        }
        if (what >= 30 && what < 30 + VARIABLES) {
            return runner.unset[what - 30] ? 1 : 0;
        }
        throw new IllegalArgumentException();
    }

    public int analyse() throws IllegalStateException {
        if (!parsed) {
            throw new IllegalStateException();
        }
        analyser.goThrough(program, unroll, narrow);
        return analyser.warningCount;
    }

    public int warning(int k) throws IndexOutOfBoundsException {
        if (k < 0 || k >= analyser.warningCount) {
            throw new IndexOutOfBoundsException();
        }
        return analyser.warningOf(k);
    }

    public int left(int k, int what) throws IllegalArgumentException, IndexOutOfBoundsException,
            IllegalStateException, UnsupportedOperationException {
        if (what < 0 || what > 4) {
            throw new IllegalArgumentException();
        }
        boolean isVariable = k >= 0 && k < VARIABLES;
        boolean isCell = k >= 10 && k < 10 + CELLS;
        if (!isVariable && !isCell) {
            throw new IndexOutOfBoundsException();
        }
        if (!analyser.done) {
            throw new IllegalStateException();
        }
        State state = analyser.end;
        Value value = state.values[isVariable ? k : VARIABLES + k - 10];
        if (state.dead || what < 4 && value.nothing) {
            throw new UnsupportedOperationException();
        }
        if (what == 4) {
            return isVariable && state.unset[k] ? 1 : 0;
        }
        return value.part(what);
    }

    public int count(int what) throws IllegalArgumentException {
        switch (what) {
            case 0:
                return reader.length;
            case 1:
                return runner.inputCount;
            case 2:
                return parsed ? program.statementCount : 0;
            case 3:
                return analyser.passes;
            case 4:
                return analyser.warningCount;
            case 5:
                return unroll;
            case 6:
                return narrow;
            default:
                throw new IllegalArgumentException();
        }
    }

    /** The TEXT, and rows of its TOKENS, up to its end or the first character that is in none. */
    private static final class Reader {
        private final char[] characters;
        private final int[] kinds;
        private final int[] places;
        private final int[] numbers;
        private int length;
        private int at;
        private int kind;
        private int place;
        private int number;

        Reader() {
            characters = new char[TEXT_MOST];
            kinds = new int[TEXT_MOST + 1];
            places = new int[TEXT_MOST + 1];
            numbers = new int[TEXT_MOST + 1];
        }

        void append(char c) {
            if (length < TEXT_MOST) {
                characters[length] = c;
                length++;
            }
        }

        void readAll() {
            at = 0;
            kind = NUMERAL;
            for (int i = 0; i <= TEXT_MOST && kind != END && kind != NO_TOKEN; i++) {
                readToken();
                kinds[i] = kind;
                places[i] = place;
                numbers[i] = number;
            }
        }

        private void readToken() {
            while (at < length && (characters[at] == ' ' || characters[at] == 10)) {
                at++;
            }
            place = at;
            number = 0;
            if (at >= length) {
                kind = END;
            } else if (isDigit(characters[at])) {
                readNumeral();
            } else if (isLetter(characters[at])) {
                readWord();
            } else {
                readSign();
            }
        }

        private void readNumeral() {
            kind = NUMERAL;
            while (at < length && at < place + 9 && isDigit(characters[at])) {
                number = number * 10 + (characters[at] - '0');
                at++;
            }
        }

        private void readWord() {
            while (at < length && isLetter(characters[at])) {
                at++;
            }
            char first = characters[place];
            if (at - place > 1) {
                kind = kindOfWord();
            } else if (first >= 'a' && first <= 'f') {
                kind = VARIABLE;
                number = first - 'a';
            } else if (first == 'A' || first == 'B') {
                kind = ARRAY;
                number = (first - 'A') * CELLS_EACH;
            } else {
                kind = NO_TOKEN;
            }
        }

        private int kindOfWord() {
            if (isWord("if")) {
                return IF;
            }
            if (isWord("else")) {
                return ELSE;
            }
            if (isWord("while")) {
                return WHILE;
            }
            if (isWord("assert")) {
                return ASSERT;
            }
            return isWord("in") ? IN : NO_TOKEN;
        }

        private boolean isWord(String word) {
            if (at - place != word.length()) {
                return false;
            }
            for (int i = 0; i < word.length(); i++) {
                if (characters[place + i] != word.charAt(i)) {
                    return false;
                }
            }
            return true;
        }

        private void readSign() {
            char sign = characters[at];
            at++;
            boolean longer = at < length && characters[at] == '=';
            if (longer && sign == '=') {
                kind = EQUAL;
            } else if (longer && sign == '!') {
                kind = UNEQUAL;
            } else if (longer && sign == '<') {
                kind = AT_MOST;
            } else {
                longer = false;
                kind = "+-*/%()[]{};=<".indexOf(sign) >= 0 ? sign : NO_TOKEN;
            }
            if (longer) {
                at++;
            }
        }

        private static boolean isDigit(char c) {
            return c >= '0' && c <= '9';
        }

        private static boolean isLetter(char c) {
            return c >= 'a' && c <= 'z' || c >= 'A' && c <= 'Z';
        }
    }

    /** A STATEMENT; the EXPRS in it are steps of its Program from start to middle to end. */
    private static final class Statement {
        private int kind;
        private int place;
        private int target;
        private int start;
        private int middle;
        private int end;
        private int compare;
        private Statement body;
        private Statement other;
        private Statement next;

        void begin(int newKind, int newPlace, int newTarget) {
            kind = newKind;
            place = newPlace;
            target = newTarget;
            body = null;
            other = null;
            next = null;
        }
    }

    /** What is parsed: STATEMENTS, and their EXPRS as steps, operators behind their parts. */
    private static final class Program {
        private final Statement[] statements;
        private int statementCount;
        private final int[] kinds;
        private final int[] numbers;
        private final int[] places;
        private int stepCount;
        private Statement first;

        Program() {
            statements = new Statement[STATEMENTS_MOST];
            for (int i = 0; i < STATEMENTS_MOST; i++) {
                statements[i] = new Statement();
            }
            kinds = new int[TEXT_MOST];
            numbers = new int[TEXT_MOST];
            places = new int[TEXT_MOST];
        }

        void empty() {
            statementCount = 0;
            stepCount = 0;
        }

        boolean isFull() {
            return statementCount >= STATEMENTS_MOST;
        }

        Statement newStatement() {
            Statement statement = statements[statementCount];
            statementCount++;
            return statement;
        }

        /** By how much a step makes a stack of values higher. */
        int growthOf(int step) {
            int kind = kinds[step];
            if (kind == NUMERAL || kind == VARIABLE) {
                return 1;
            }
            return kind == ARRAY || kind == NEGATE ? 0 : -1;
        }

        void addStep(int kind, int number, int place) {
            if (stepCount < TEXT_MOST) {
                kinds[stepCount] = kind;
                numbers[stepCount] = number;
                places[stepCount] = place;
                stepCount++;
            }
        }
    }

    /** Makes a Program of a text, or finds the place where it is none. */
    private static final class Parser {
        private final Reader reader;
        private int at;
        private Program program;
        private int fault;

        Parser() {
            reader = new Reader();
            fault = NO_FAULT;
        }

        void readProgram(Program into) {
            program = into;
            program.empty();
            fault = NO_FAULT;
            reader.readAll();
            at = 0;
            program.first = readStatements(END, 0);
        }

        private int kindHere() {
            return reader.kinds[at];
        }

        private void need(boolean holds) {
            if (!holds) {
                fault = reader.places[at];
                throw new IllegalArgumentException();
            }
        }

        private void advance() {
            if (at < TEXT_MOST) {
                at++;
            }
        }

        private void take(int kind) {
            need(kindHere() == kind);
            advance();
        }

        private Statement readStatements(int ending, int depth) {
            Statement first = null;
            Statement last = null;
            for (int n = 0; n <= STATEMENTS_MOST && kindHere() != ending; n++) {
                Statement statement = readStatement(depth);
                if (last == null) {
                    first = statement;
                } else {
                    last.next = statement;
                }
                last = statement;
            }
            return first;
        }

        private Statement readStatement(int depth) {
            int kind = kindHere();
            need(beginsStatement(kind) && !program.isFull());
            Statement statement = program.newStatement();
            statement.begin(kind, reader.places[at], reader.numbers[at]);
            advance();
            if (kind == VARIABLE) {
                readAssignment(statement);
            } else if (kind == ARRAY) {
                readStore(statement);
            } else {
                readCond(statement);
                readRest(statement, depth);
            }
            return statement;
        }

        private static boolean beginsStatement(int kind) {
            return kind == VARIABLE || kind == ARRAY || kind == IF || kind == WHILE || kind == ASSERT;
        }

        private void readAssignment(Statement statement) {
            take('=');
            if (kindHere() == IN) {
                statement.kind = IN;
                advance();
            } else {
                statement.start = program.stepCount;
                readExpr(0);
                statement.end = program.stepCount;
            }
            take(';');
        }

        private void readStore(Statement statement) {
            take('[');
            statement.start = program.stepCount;
            readExpr(0);
            statement.middle = program.stepCount;
            take(']');
            take('=');
            readExpr(0);
            statement.end = program.stepCount;
            take(';');
        }

        private void readCond(Statement statement) {
            take('(');
            statement.start = program.stepCount;
            readExpr(0);
            statement.middle = program.stepCount;
            int kind = kindHere();
            need(kind == EQUAL || kind == UNEQUAL || kind == BELOW || kind == AT_MOST);
            statement.compare = kind;
            advance();
            readExpr(0);
            statement.end = program.stepCount;
            take(')');
        }

        private void readRest(Statement statement, int depth) {
            if (statement.kind == ASSERT) {
                take(';');
                return;
            }
            statement.body = readBlock(depth + 1);
            if (statement.kind == IF && kindHere() == ELSE) {
                advance();
                statement.other = readBlock(depth + 1);
            }
        }

        private Statement readBlock(int depth) {
            need(depth <= BLOCK_DEEPEST);
            take('{');
            Statement first = readStatements('}', depth);
            take('}');
            return first;
        }

        /** Like all that read parts of an EXPR, answers the HEIGHT of what it read. */
        private int readExpr(int depth) {
            int height = readTerm(depth);
            for (int n = 0; n < TEXT_MOST && (kindHere() == '+' || kindHere() == '-'); n++) {
                int kind = kindHere();
                int place = reader.places[at];
                need(height < HEIGHT_MOST);
                advance();
                height = 1 + Math.max(height, readTerm(depth));
                program.addStep(kind, 0, place);
            }
            return height;
        }

        private int readTerm(int depth) {
            int height = readFactor(depth);
            for (int n = 0; n < TEXT_MOST && isProductSign(kindHere()); n++) {
                int kind = kindHere();
                int place = reader.places[at];
                need(height < HEIGHT_MOST);
                advance();
                height = 1 + Math.max(height, readFactor(depth));
                program.addStep(kind, 0, place);
            }
            return height;
        }

        private static boolean isProductSign(int kind) {
            return kind == '*' || kind == '/' || kind == '%';
        }

        private static boolean beginsFactor(int kind) {
            return kind == NUMERAL || kind == VARIABLE || kind == ARRAY || kind == '-' || kind == '(';
        }

        private int readFactor(int depth) {
            need(depth <= FACTOR_DEEPEST);
            int kind = kindHere();
            int place = reader.places[at];
            int number = reader.numbers[at];
            need(beginsFactor(kind));
            advance();
            if (kind == '(') {
                int height = readExpr(depth + 1);
                take(')');
                return height;
            }
            int height = 0;
            if (kind == ARRAY) {
                take('[');
                height = readExpr(depth + 1);
                take(']');
            } else if (kind == '-') {
                kind = NEGATE;
                height = readFactor(depth + 1);
            }
            program.addStep(kind, number, place);
            return height + 1;
        }
    }

    /** Does a Program with its inputs, up to its first error. */
    private static final class Runner {
        private final int[] variables;
        private final boolean[] unset;
        private final int[] cells;
        private final int[] stack;
        private final int[] inputs;
        private int inputCount;
        private Program program;
        private int limit;
        private int begun;
        private int taken;
        private int error;

        Runner() {
            variables = new int[VARIABLES];
            unset = new boolean[VARIABLES];
            for (int i = 0; i < VARIABLES; i++) {
                unset[i] = true;
            }
            cells = new int[CELLS];
            stack = new int[STACK_MOST];
            inputs = new int[INPUTS_MOST];
        }

        void addInput(int v) {
            if (inputCount < INPUTS_MOST) {
                inputs[inputCount] = v;
                inputCount++;
            }
        }

        /** Whether it came to the end and was not STOPPED. */
        boolean doProgram(Program newProgram, int newLimit) {
            program = newProgram;
            limit = newLimit;
            begin();
            return doStatements(program.first, 0);
        }

        private void begin() {
            for (int i = 0; i < VARIABLES; i++) {
                variables[i] = 0;
                unset[i] = true;
            }
            for (int i = 0; i < CELLS; i++) {
                cells[i] = 0;
            }
            begun = 0;
            taken = 0;
            error = 0;
        }

        private boolean doStatements(Statement first, int depth) {
            if (depth > BLOCK_DEEPEST) {
                return false;
            }
            for (Statement s = first; s != null; s = s.next) {
                if (!mayBegin() || !doStatement(s, depth)) {
                    return false;
                }
            }
            return true;
        }

        private boolean mayBegin() {
            if (begun >= limit) {
                return false;
            }
            begun++;
            return true;
        }

        private boolean doStatement(Statement s, int depth) {
            switch (s.kind) {
                case VARIABLE:
                    assign(s.target, workOut(s.start, s.end, 0));
                    return true;
                case IN:
                    assign(s.target, nextInput());
                    return true;
                case ARRAY:
                    store(s);
                    return true;
                case IF:
                    return doStatements(holds(s) ? s.body : s.other, depth + 1);
                case WHILE:
                    return doWhile(s, depth);
                default:
                    if (!holds(s)) {
                        fail(FALSE, s.place);
                    }
                    return true;
            }
        }

        private boolean doWhile(Statement s, int depth) {
            for (int n = 0; n <= LIMIT_MOST; n++) {
                if (!holds(s)) {
                    return true;
                }
                if (!doStatements(s.body, depth + 1) || !mayBegin()) {
                    return false;
                }
            }
            return false;
        }

        private void assign(int variable, int value) {
            variables[variable] = value;
            unset[variable] = false;
        }

        private int nextInput() {
            if (taken >= inputCount) {
                return 0;
            }
            taken++;
            return inputs[taken - 1];
        }

        private void store(Statement s) {
            int index = cellOf(s.target, workOut(s.start, s.middle, 0), s.place);
            cells[index] = workOut(s.middle, s.end, 0);
        }

        private int cellOf(int array, int index, int place) {
            if (index < 0 || index >= CELLS_EACH) {
                fail(INDEX, place);
            }
            return array + index;
        }

        private boolean holds(Statement s) {
            int x = workOut(s.start, s.middle, 0);
            int y = workOut(s.middle, s.end, 1);
            switch (s.compare) {
                case EQUAL:
                    return x == y;
                case UNEQUAL:
                    return x != y;
                case BELOW:
                    return x < y;
                default:
                    return x <= y;
            }
        }

        private int workOut(int from, int to, int base) {
            int top = base;
            for (int i = from; i < to; i++) {
                top += program.growthOf(i);
                if (top < 1 || top >= STACK_MOST) {
                    return 0;
                }
                stack[top - 1] = doStep(i, stack[top - 1], stack[top]);
            }
            return stack[base];
        }

        private int doStep(int step, int x, int y) {
            int number = program.numbers[step];
            int place = program.places[step];
            int kind = program.kinds[step];
            switch (kind) {
                case NUMERAL:
                    return number;
                case VARIABLE:
                    if (unset[number]) {
                        fail(UNSET, place);
                    }
                    return variables[number];
                case ARRAY:
                    return cells[cellOf(number, x, place)];
                case NEGATE:
                    return intOf(-(long) x, place);
                case '/':
                case '%':
                    return intOf(divide(kind, x, y, place), place);
                default:
                    return intOf(combine(kind, x, y), place);
            }
        }

        private long divide(int kind, long x, long y, int place) {
            if (y == 0) {
                fail(ZERO, place);
                return 0;
            }
            return kind == '/' ? x / y : x % y;
        }

        private long combine(int kind, long x, long y) {
            if (kind == '+') {
                return x + y;
            }
            return kind == '-' ? x - y : x * y;
        }

        private int intOf(long x, int place) {
            if (x < INT_LEAST || x > INT_MOST) {
                fail(OVER, place);
            }
            return (int) x;
        }

        private void fail(int kind, int place) {
            error = KIND_WEIGHT * kind + place;
            switch (kind) {
                case UNSET:
                    throw new IllegalStateException();
                case INDEX:
                    throw new IndexOutOfBoundsException();
                case FALSE:
                    throw new UnsupportedOperationException();
                default:
                    throw new ArithmeticException();
            }
        }
    }

    /** A VALUE, which its operations change in place; those that may be OVER answer whether so. */
    private static final class Value {
        private boolean nothing;
        private long lo;
        private long hi;
        private long m;
        private long r;

        Value() {
            nothing = true;
        }

        void setNothing() {
            nothing = true;
        }

        void setOne(long n) {
            nothing = false;
            lo = n;
            hi = n;
            m = 0;
            r = n;
        }

        void setAll() {
            nothing = false;
            lo = INT_LEAST;
            hi = INT_MOST;
            m = 1;
            r = 0;
        }

        void copy(Value v) {
            nothing = v.nothing;
            lo = v.lo;
            hi = v.hi;
            m = v.m;
            r = v.r;
        }

        boolean sameAs(Value v) {
            if (nothing || v.nothing) {
                return nothing == v.nothing;
            }
            return lo == v.lo && hi == v.hi && m == v.m && r == v.r;
        }

        int part(int what) {
            switch (what) {
                case 0:
                    return (int) lo;
                case 1:
                    return (int) hi;
                case 2:
                    return (int) m;
                default:
                    return (int) r;
            }
        }

        boolean has(long n) {
            return !nothing && n >= lo && n <= hi && (m == 0 || Math.floorMod(n - r, m) == 0);
        }

        boolean goesBeyondCells() {
            return lo < 0 || hi >= CELLS_EACH;
        }

        /** What n leaves when divided by divisor; n itself if that is 0. */
        private static long restBy(long n, long divisor) {
            return divisor == 0 ? n : Math.floorMod(n, divisor);
        }

        private static long commonDivisor(long a, long b) {
            long x = Math.abs(a);
            long y = Math.abs(b);
            for (int n = 0; n < DIVISIONS_MOST && y != 0; n++) {
                long rest = x % y;
                x = y;
                y = rest;
            }
            return x;
        }

        /** Also cuts the range to ints; answers whether there was something to cut. */
        private boolean putTight() {
            boolean over = lo < INT_LEAST || hi > INT_MOST;
            lo = Math.max(lo, INT_LEAST);
            hi = Math.min(hi, INT_MOST);
            if (m > MODULUS_MOST) {
                m = 1;
                r = 0;
            }
            if (m == 0) {
                nothing = nothing || r < lo || r > hi;
                lo = r;
                hi = r;
                return over;
            }
            lo += Math.floorMod(r - lo, m);
            hi -= Math.floorMod(hi - r, m);
            nothing = nothing || lo > hi;
            if (lo == hi) {
                m = 0;
                r = lo;
            }
            return over;
        }

        void join(Value v) {
            if (v.nothing) {
                return;
            }
            if (nothing) {
                copy(v);
                return;
            }
            lo = Math.min(lo, v.lo);
            hi = Math.max(hi, v.hi);
            m = commonDivisor(commonDivisor(m, v.m), r - v.r);
            r = restBy(r, m);
            putTight();
        }

        void meet(Value v) {
            boolean fits = meets(v);
            if (m != 0 && (v.m == 0 || v.m > m)) {
                m = v.m;
                r = v.r;
            }
            lo = Math.max(lo, v.lo);
            hi = Math.min(hi, v.hi);
            putTight();
            nothing = nothing || !fits;
        }

        private boolean meets(Value v) {
            if (m == 0) {
                return v.has(r);
            }
            if (v.m == 0) {
                return has(v.r);
            }
            long common = commonDivisor(m, v.m);
            return restBy(r, common) == restBy(v.r, common);
        }

        /** Takes n away where it is an end. */
        void trim(long n) {
            boolean isLo = lo == n;
            boolean isHi = hi == n;
            lo += isLo ? 1 : 0;
            hi -= isHi ? 1 : 0;
            putTight();
        }

        void lowerTo(long n) {
            hi = Math.min(hi, n);
            putTight();
        }

        void raiseTo(long n) {
            lo = Math.max(lo, n);
            putTight();
        }

        boolean add(Value v) {
            lo += v.lo;
            hi += v.hi;
            m = commonDivisor(m, v.m);
            r = restBy(r + v.r, m);
            return putTight();
        }

        boolean subtract(Value v) {
            lo -= v.hi;
            hi -= v.lo;
            m = commonDivisor(m, v.m);
            r = restBy(r - v.r, m);
            return putTight();
        }

        boolean multiply(Value v) {
            long a = lo * v.lo;
            long b = lo * v.hi;
            long c = hi * v.lo;
            long d = hi * v.hi;
            lo = Math.min(Math.min(a, b), Math.min(c, d));
            hi = Math.max(Math.max(a, b), Math.max(c, d));
            long common = commonDivisor(commonDivisor(m * v.m, m * v.r), v.m * r);
            r = restBy(r * v.r, common);
            m = common;
            return putTight();
        }

        boolean divide(Value v) {
            boolean over = lo == INT_LEAST && v.has(-1);
            long oldLo = lo;
            long oldHi = hi;
            lo = Long.MAX_VALUE;
            hi = Long.MIN_VALUE;
            if (v.lo < 0) {
                takeQuotients(oldLo, oldHi, v.lo);
                takeQuotients(oldLo, oldHi, Math.min(v.hi, -1));
            }
            if (v.hi > 0) {
                takeQuotients(oldLo, oldHi, Math.max(v.lo, 1));
                takeQuotients(oldLo, oldHi, v.hi);
            }
            m = 1;
            r = 0;
            if (lo > hi) {
                nothing = true;
                return over;
            }
            putTight();
            return over;
        }

        private void takeQuotients(long a, long b, long divisor) {
            if (divisor == 0) {
                return;
            }
            lo = Math.min(lo, Math.min(a / divisor, b / divisor));
            hi = Math.max(hi, Math.max(a / divisor, b / divisor));
        }

        void remainder(Value v) {
            if (v.lo == 0 && v.hi == 0) {
                nothing = true;
                return;
            }
            if (m == 0 && v.m == 0 && v.r != 0) {
                setOne(r % v.r);
                return;
            }
            long most = Math.max(Math.abs(v.lo), Math.abs(v.hi)) - 1;
            lo = Math.max(Math.min(lo, 0), -most);
            hi = Math.min(Math.max(hi, 0), most);
            m = 1;
            r = 0;
            putTight();
        }

        void widen(Value v) {
            boolean hadNone = nothing;
            long oldLo = lo;
            long oldHi = hi;
            join(v);
            if (nothing || hadNone) {
                return;
            }
            if (lo < oldLo) {
                lo = stepDown(lo);
            }
            if (hi > oldHi) {
                hi = stepUp(hi);
            }
            putTight();
        }

        private static long stepDown(long n) {
            long found = INT_LEAST;
            for (int i = 0; i < WIDE_STEPS.length; i++) {
                if (WIDE_STEPS[i] <= n) {
                    found = WIDE_STEPS[i];
                }
            }
            return found;
        }

        private static long stepUp(long n) {
            long found = INT_MOST;
            for (int i = WIDE_STEPS.length - 1; i >= 0; i--) {
                if (WIDE_STEPS[i] >= n) {
                    found = WIDE_STEPS[i];
                }
            }
            return found;
        }
    }

    /** A STATE: the VALUES of all VARIABLES, then of all CELLS. */
    private static final class State {
        private boolean dead;
        private final Value[] values;
        private final boolean[] unset;

        State() {
            values = new Value[VARIABLES + CELLS];
            for (int i = 0; i < VARIABLES + CELLS; i++) {
                values[i] = new Value();
            }
            unset = new boolean[VARIABLES];
        }

        void setFirst() {
            dead = false;
            for (int i = 0; i < VARIABLES; i++) {
                values[i].setNothing();
                unset[i] = true;
            }
            for (int i = 0; i < CELLS; i++) {
                values[VARIABLES + i].setOne(0);
            }
        }

        void copy(State s) {
            dead = s.dead;
            for (int i = 0; i < VARIABLES + CELLS; i++) {
                values[i].copy(s.values[i]);
            }
            for (int i = 0; i < VARIABLES; i++) {
                unset[i] = s.unset[i];
            }
        }

        boolean sameAs(State s) {
            if (dead || s.dead) {
                return dead == s.dead;
            }
            for (int i = 0; i < VARIABLES + CELLS; i++) {
                if (!values[i].sameAs(s.values[i])) {
                    return false;
                }
            }
            for (int i = 0; i < VARIABLES; i++) {
                if (unset[i] != s.unset[i]) {
                    return false;
                }
            }
            return true;
        }

        void join(State s) {
            merge(s, false);
        }

        void widen(State s) {
            merge(s, true);
        }

        private void merge(State s, boolean widening) {
            if (s.dead) {
                return;
            }
            if (dead) {
                copy(s);
                return;
            }
            for (int i = 0; i < VARIABLES + CELLS; i++) {
                if (widening) {
                    values[i].widen(s.values[i]);
                } else {
                    values[i].join(s.values[i]);
                }
            }
            for (int i = 0; i < VARIABLES; i++) {
                unset[i] = unset[i] || s.unset[i];
            }
        }

        void setAllInts() {
            for (int i = 0; i < VARIABLES + CELLS; i++) {
                values[i].setAll();
            }
        }
    }

    /** Goes through a Program with all values that may be. */
    private static final class Analyser {
        private static final int STATES_EACH = 3;

        private final State end;
        // For each depth of BLOCKS as many as a while there needs.
        private final State[] states;
        private final Value[] stack;
        private final int[] kindsAt;
        private Program program;
        private int unroll;
        private int narrow;
        private boolean loud;
        private boolean done;
        private int passes;
        private int warningCount;

        Analyser() {
            end = new State();
            states = new State[STATES_EACH * (BLOCK_DEEPEST + 1)];
            for (int i = 0; i < states.length; i++) {
                states[i] = new State();
            }
            stack = new Value[STACK_MOST];
            for (int i = 0; i < STACK_MOST; i++) {
                stack[i] = new Value();
            }
            kindsAt = new int[TEXT_MOST];
        }

        void goThrough(Program newProgram, int newUnroll, int newNarrow) {
            program = newProgram;
            unroll = newUnroll;
            narrow = newNarrow;
            for (int i = 0; i < TEXT_MOST; i++) {
                kindsAt[i] = 0;
            }
            passes = 0;
            warningCount = 0;
            loud = true;
            end.setFirst();
            goStatements(program.first, end, 0);
            done = true;
        }

        private void warnIf(boolean comesUp, int kind, int place) {
            int flag = 1 << kind;
            if (comesUp && loud && (kindsAt[place] & flag) == 0) {
                kindsAt[place] |= flag;
                warningCount++;
            }
        }

        int warningOf(int k) {
            int seen = 0;
            for (int place = 0; place < TEXT_MOST; place++) {
                for (int kind = UNSET; kind <= FALSE; kind++) {
                    if ((kindsAt[place] >> kind & 1) != 0) {
                        if (seen == k) {
                            return KIND_WEIGHT * kind + place;
                        }
                        seen++;
                    }
                }
            }
            return 0;
        }

        private void goStatements(Statement first, State state, int depth) {
            if (depth > BLOCK_DEEPEST) {
                return;
            }
            for (Statement s = first; s != null && !state.dead; s = s.next) {
                goStatement(s, state, depth);
            }
        }

        private void goStatement(Statement s, State state, int depth) {
            switch (s.kind) {
                case VARIABLE:
                    goAssignment(s, state);
                    break;
                case IN:
                    state.values[s.target].setAll();
                    state.unset[s.target] = false;
                    break;
                case ARRAY:
                    goStore(s, state);
                    break;
                case IF:
                    goIf(s, state, depth);
                    break;
                case WHILE:
                    goWhile(s, state, depth);
                    break;
                default:
                    goAssert(s, state, depth);
                    break;
            }
        }

        private void goAssignment(Statement s, State state) {
            if (!workOut(s.start, s.end, 0, state)) {
                state.dead = true;
                return;
            }
            state.values[s.target].copy(stack[0]);
            state.unset[s.target] = false;
        }

        private void goStore(Statement s, State state) {
            if (!workOut(s.start, s.middle, 0, state)) {
                state.dead = true;
                return;
            }
            Value index = stack[0];
            warnIf(index.goesBeyondCells(), INDEX, s.place);
            int cells = 0;
            for (int i = 0; i < CELLS_EACH; i++) {
                cells += index.has(i) ? 1 : 0;
            }
            if (!workOut(s.middle, s.end, 1, state) || cells == 0) {
                state.dead = true;
                return;
            }
            for (int i = 0; i < CELLS_EACH; i++) {
                Value cell = state.values[VARIABLES + s.target + i];
                if (index.has(i) && cells == 1) {
                    cell.copy(stack[1]);
                } else if (index.has(i)) {
                    cell.join(stack[1]);
                }
            }
        }

        private void goIf(Statement s, State state, int depth) {
            State other = states[STATES_EACH * depth];
            other.copy(state);
            assume(s, state, true);
            assume(s, other, false);
            goStatements(s.body, state, depth + 1);
            goStatements(s.other, other, depth + 1);
            state.join(other);
        }

        private void goAssert(Statement s, State state, int depth) {
            State other = states[STATES_EACH * depth];
            other.copy(state);
            assume(s, other, false);
            warnIf(!other.dead, FALSE, s.place);
            assume(s, state, true);
        }

        private void goWhile(Statement s, State state, int depth) {
            State before = states[STATES_EACH * depth];
            State pass = states[STATES_EACH * depth + 1];
            before.copy(state);
            boolean wasLoud = loud;
            loud = false;
            settle(s, state, depth);
            for (int n = 0; n < narrow; n++) {
                goPass(s, state, depth);
                state.copy(pass);
            }
            // Each last time counts, also one within a pass of a while around that is not its last.
            loud = true;
            goPass(s, state, depth);
            loud = wasLoud;
            assume(s, state, false);
        }

        /** Makes the state one that further passes leave as it is. */
        private void settle(Statement s, State state, int depth) {
            State pass = states[STATES_EACH * depth + 1];
            State joined = states[STATES_EACH * depth + 2];
            for (int k = 1; k <= PASSES_MOST; k++) {
                goPass(s, state, depth);
                joined.copy(state);
                joined.join(pass);
                if (joined.sameAs(state)) {
                    return;
                }
                if (k <= unroll) {
                    state.copy(joined);
                } else {
                    state.widen(pass);
                }
                if (k > PATIENCE) {
                    state.setAllInts();
                }
            }
        }

        /** Once through a while's BLOCK; the second one then is what it leaves, with the first. */
        private void goPass(Statement s, State state, int depth) {
            State before = states[STATES_EACH * depth];
            State pass = states[STATES_EACH * depth + 1];
            passes++;
            pass.copy(state);
            assume(s, pass, true);
            goStatements(s.body, pass, depth + 1);
            pass.join(before);
        }

        /** Leaves of a STATE what is so with the COND, or with its contrary. */
        private void assume(Statement s, State state, boolean taken) {
            if (!workOut(s.start, s.middle, 0, state) || !workOut(s.middle, s.end, 1, state)) {
                state.dead = true;
                return;
            }
            boolean turned = !taken && (s.compare == BELOW || s.compare == AT_MOST);
            Value x = stack[turned ? 1 : 0];
            Value y = stack[turned ? 0 : 1];
            compare(taken ? s.compare : contraryOf(s.compare), x, y);
            if (x.nothing || y.nothing) {
                state.dead = true;
            } else if (turned) {
                learn(s.middle, s.end, x, state);
                learn(s.start, s.middle, y, state);
            } else {
                learn(s.start, s.middle, x, state);
                learn(s.middle, s.end, y, state);
            }
        }

        /** What a comparison becomes for not; < and <= with their sides turned round. */
        private static int contraryOf(int kind) {
            switch (kind) {
                case EQUAL:
                    return UNEQUAL;
                case UNEQUAL:
                    return EQUAL;
                case BELOW:
                    return AT_MOST;
                default:
                    return BELOW;
            }
        }

        /** If the steps are a VARIABLE alone, it has this value from now on. */
        private void learn(int from, int to, Value value, State state) {
            if (to == from + 1 && program.kinds[from] == VARIABLE) {
                state.values[program.numbers[from]].copy(value);
            }
        }

        private void compare(int kind, Value x, Value y) {
            switch (kind) {
                case EQUAL:
                    x.meet(y);
                    y.copy(x);
                    break;
                case UNEQUAL:
                    compareUnequal(x, y);
                    break;
                case BELOW:
                    compareOrder(x, y, 1);
                    break;
                default:
                    compareOrder(x, y, 0);
                    break;
            }
        }

        private void compareUnequal(Value x, Value y) {
            boolean oneX = x.m == 0;
            boolean oneY = y.m == 0;
            long oldX = x.r;
            long oldY = y.r;
            if (oneY) {
                x.trim(oldY);
            }
            if (oneX) {
                y.trim(oldX);
            }
        }

        private void compareOrder(Value x, Value y, int distance) {
            long oldLo = x.lo;
            x.lowerTo(y.hi - distance);
            y.raiseTo(oldLo + distance);
        }

        /** Leaves the VALUE of an EXPR on the stack at base; false if it is NOTHING. */
        private boolean workOut(int from, int to, int base, State state) {
            int top = base;
            for (int i = from; i < to; i++) {
                top += program.growthOf(i);
                if (top < 1 || top >= STACK_MOST) {
                    return false;
                }
                Value x = stack[top - 1];
                doStep(i, x, stack[top], state);
                if (x.nothing) {
                    return false;
                }
            }
            return true;
        }

        /** Leaves in x what a step makes of x, or of x and y; y may be used up. */
        private void doStep(int step, Value x, Value y, State state) {
            int number = program.numbers[step];
            int place = program.places[step];
            switch (program.kinds[step]) {
                case NUMERAL:
                    x.setOne(number);
                    break;
                case VARIABLE:
                    x.copy(state.values[number]);
                    warnIf(state.unset[number], UNSET, place);
                    break;
                case ARRAY:
                    warnIf(x.goesBeyondCells(), INDEX, place);
                    y.setNothing();
                    for (int i = 0; i < CELLS_EACH; i++) {
                        if (x.has(i)) {
                            y.join(state.values[VARIABLES + number + i]);
                        }
                    }
                    x.copy(y);
                    break;
                case NEGATE:
                    y.copy(x);
                    x.setOne(0);
                    warnIf(x.subtract(y), OVER, place);
                    break;
                case '+':
                    warnIf(x.add(y), OVER, place);
                    break;
                case '-':
                    warnIf(x.subtract(y), OVER, place);
                    break;
                case '*':
                    warnIf(x.multiply(y), OVER, place);
                    break;
                case '/':
                    warnIf(y.has(0), ZERO, place);
                    warnIf(x.divide(y), OVER, place);
                    break;
                default:
                    warnIf(y.has(0), ZERO, place);
                    x.remainder(y);
                    break;
            }
        }
    }
}
