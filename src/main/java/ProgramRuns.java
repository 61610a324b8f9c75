/**
 * Runs programs of a small language, step by step, with traps. The document of the project says
 * what each call promises; README.md says which class in here does which part of it.
 */
public final class ProgramRuns {
    public static final int NONE = -1;

    private static final int FED_BYTES = 20;
    private static final int MOST_BYTES = 8000;
    private static final int MOST_NAME_BYTES = 30;
    private static final int MOST_DIGITS = 10;
    private static final long LEAST_INT = -2147483648L;
    private static final long GREATEST_INT = 2147483647L;
    private static final int MOST_DEEP = 60;
    private static final int MOST_NUMBERS = 12;
    private static final int MOST_ARRAYS = 6;
    private static final int MOST_PLACES = 64;
    private static final int MOST_POINTS = 250;
    private static final int MOST_INPUTS = 400;
    private static final int MOST_STEPS = 2000;
    // Each byte may be a token, and the end of the text is one more.
    private static final int MOST_TOKENS = MOST_BYTES + 1;
    // The shortest statements, such as f(); have four bytes. One that is only begun has a place,
    // too, so that a row that is full is never taken for a fault of the text.
    private static final int MOST_STATEMENTS = MOST_BYTES / 4 + 1;
    // The shortest functions, such as fun f(){} have nine bytes. One may be begun only, likewise.
    private static final int MOST_FUNCTIONS = MOST_BYTES / 9 + 1;
    // A point is laid, a first BLOCK or another one is ended: at most three turns a point.
    private static final int MOST_TURNS = 4 * MOST_POINTS;
    // Each of 60 depths leaves at most three values waiting, and a call its first SUMs.
    private static final int MOST_WAITING = 256;

    // What end() answers.
    private static final int PROGRAM = 0;
    private static final int FAULTY = 1;
    private static final int WRONG = 2;

    // What run() answers.
    private static final int CAME_TO_END = 0;
    private static final int NO_INT = 1;
    private static final int BY_ZERO = 2;
    private static final int NO_PLACE = 4;
    private static final int NOT_HELD = 8;
    private static final int STEPS_DONE = 16;

    // The statements of points.
    private static final int THE_END = 0;
    private static final int VAR_STATEMENT = 1;
    private static final int SET_STATEMENT = 2;
    private static final int SET_PLACE_STATEMENT = 3;
    private static final int CALL_STATEMENT = 4;
    private static final int IF_STATEMENT = 5;
    private static final int WHILE_STATEMENT = 6;
    private static final int ASSERT_STATEMENT = 7;
    private static final int RETURN_STATEMENT = 8;

    // What is wrong.
    private static final int NO_MEANING = 1;
    private static final int NAME_TWICE = 2;
    private static final int ARRAY_OR_NUMBER = 3;
    private static final int NO_FUNCTION = 4;
    private static final int OTHER_SUMS = 5;
    private static final int RETURN_AMISS = 6;
    private static final int PROGRAM_AS_FUNCTION = 7;
    private static final int LIMITS_CROSSED = 8;
    private static final int PLACES_AMISS = 9;
    private static final int TOO_MANY_NUMBERS = 10;
    private static final int TOO_MANY_POINTS = 11;
    private static final int TOO_MANY_ARRAYS = 13;

    // The kinds of tokens. Those from PLUS to NOT, NUMBER, NAME and ANY are operations, too.
    private static final int END_OF_TEXT = 0;
    private static final int NO_TOKEN = 1;
    private static final int NAME = 2;
    private static final int NUMBER = 3;
    private static final int FUN = 4;
    private static final int VAR = 5;
    private static final int IF = 6;
    private static final int ELSE = 7;
    private static final int WHILE = 8;
    private static final int ASSERT = 9;
    private static final int RETURN = 10;
    private static final int ANY = 11;
    // The words in the order of their kinds; in a row, as no text is to be made for a NAME.
    private static final char[] WORDS = {
        'f', 'u', 'n', ' ', 'v', 'a', 'r', ' ', 'i', 'f', ' ', 'e', 'l', 's', 'e', ' ',
        'w', 'h', 'i', 'l', 'e', ' ', 'a', 's', 's', 'e', 'r', 't', ' ',
        'r', 'e', 't', 'u', 'r', 'n', ' ', 'a', 'n', 'y', ' ',
    };
    private static final int OPEN = 12;
    private static final int CLOSE = 13;
    private static final int OPEN_BLOCK = 14;
    private static final int CLOSE_BLOCK = 15;
    private static final int OPEN_PLACE = 16;
    private static final int CLOSE_PLACE = 17;
    private static final int COMMA = 18;
    private static final int SEMICOLON = 19;
    private static final int BECOMES = 20;
    private static final int PLUS = 21;
    private static final int MINUS = 22;
    private static final int TIMES = 23;
    private static final int OVER = 24;
    private static final int REST = 25;
    private static final int LESS = 26;
    private static final int AT_MOST = 27;
    private static final int MORE = 28;
    private static final int AT_LEAST = 29;
    private static final int EQUAL = 30;
    private static final int UNEQUAL = 31;
    private static final int AND = 32;
    private static final int OR = 33;
    private static final int NOT = 34;

    // The operations that no token's kind names.
    private static final int NEGATE = 35;
    private static final int ARRAY = 36;
    private static final int LOOK_AT_PLACE = 37;
    private static final int TAKE_PLACE = 38;

    private final Tokens tokens;
    private final Reader reader;
    private final Points points;
    private final Layout layout;
    private final Machine machine;
    private boolean ended;
    private int wrong;
    private int where;

    public ProgramRuns() {
        Program program = new Program();
        tokens = new Tokens();
        reader = new Reader(tokens, program);
        points = new Points();
        layout = new Layout(tokens, program, points);
        machine = new Machine(tokens, program, points);
    }

    public int feed(int a, int b, int c, int d, int e) {
        if (tokens.bytes() + FED_BYTES > MOST_BYTES) {
            return NONE;
        }
        tokens.addBytes(a);
        tokens.addBytes(b);
        tokens.addBytes(c);
        tokens.addBytes(d);
        tokens.addBytes(e);
        return tokens.bytes();
    }

    public int end(int n) {
        if (n < 0 || n > tokens.bytes()) {
            return NONE;
        }
        ended = true;
        wrong = 0;
        where = 0;
        machine.forget();
        tokens.readText(n);
        if (!reader.readText()) {
            where = reader.faultPlace();
            points.leaveOnlyTheEnd();
            return FAULTY;
        }
        if (!layout.layProgram()) {
            wrong = layout.whatIsWrong();
            where = layout.whereItIs();
            points.leaveOnlyTheEnd();
            return WRONG;
        }
        return PROGRAM;
    }

    public int told(int what) {
        if (!ended || what < 0 || what > 1) {
            return NONE;
        }
        return what == 0 ? wrong : where;
    }

    public int points() {
        return points.count();
    }

    public int point(int p, int what) {
        if (p < 0 || p >= points.count()) {
            return NONE;
        }
        switch (what) {
            case 0:
                return points.kindOf(p);
            case 1:
                return points.placeOf(p);
            case 2:
                return points.numbersAt(p);
            case 3:
                return points.arraysAt(p);
            case 4:
                return points.nextOf(p);
            default:
                return NONE;
        }
    }

    public int input(int x) {
        return machine.addInput(x);
    }

    public int drop() {
        return machine.dropInputs();
    }

    public int run(int steps) {
        if (steps < 0 || steps > MOST_STEPS) {
            return NONE;
        }
        return machine.runSteps(steps);
    }

    public int ran(int what) {
        switch (what) {
            case 0:
                return machine.standsAt();
            case 1:
                return machine.stepsDone();
            case 2:
                return machine.inputsTaken();
            default:
                return NONE;
        }
    }

    public int value(int x) {
        return machine.numberIn(x);
    }

    public int place(int a, int i) {
        return machine.placeIn(a, i);
    }

    /**
     * The bytes that were fed and the tokens of a text. Behind the last token stands END_OF_TEXT,
     * or NO_TOKEN where there is none: as no rule of the grammar takes these two, the Reader's
     * fault lies at them by itself.
     */
    private static final class Tokens {
        private final byte[] text = new byte[MOST_BYTES];
        private int bytes;
        private final byte[] kinds = new byte[MOST_TOKENS];
        private final int[] places = new int[MOST_TOKENS];
        // Of a NUMBER the number, of a NAME how many bytes it has.
        private final int[] values = new int[MOST_TOKENS];
        private int length;
        private int count;

        int bytes() {
            return bytes;
        }

        void addBytes(int four) {
            for (int shift = 24; shift >= 0; shift -= 8) {
                if (bytes >= 0 && bytes < text.length) {
                    text[bytes] = (byte) (four >> shift);
                    bytes++;
                }
            }
        }

        void readText(int n) {
            bytes = 0;
            length = n;
            count = 0;
            int at = behindBlanks(0);
            for (int i = 0; i < MOST_BYTES && at < length; i++) {
                int size = readToken(at);
                if (size == 0) {
                    add(NO_TOKEN, at, 0);
                    return;
                }
                at = behindBlanks(at + size);
            }
            add(END_OF_TEXT, length, 0);
        }

        int count() {
            return count;
        }

        int kindAt(int token) {
            return token >= 0 && token < count ? kinds[token] : END_OF_TEXT;
        }

        int placeAt(int token) {
            return token >= 0 && token < count ? places[token] : length;
        }

        int valueAt(int token) {
            return token >= 0 && token < count ? values[token] : 0;
        }

        int limitAt(int token) {
            return kindAt(token) == MINUS ? -valueAt(token + 1) : valueAt(token);
        }

        /** The token of the second LIMIT behind that of the first one. */
        int secondLimit(int first) {
            return first + (kindAt(first) == MINUS ? 3 : 2);
        }

        boolean sameName(int one, int other) {
            int size = valueAt(one);
            int place = placeAt(one);
            int otherPlace = placeAt(other);
            boolean same = size == valueAt(other)
                    && place + size <= text.length && otherPlace + size <= text.length;
            for (int i = 0; i < size && same; i++) {
                same = text[place + i] == text[otherPlace + i];
            }
            return same;
        }

        private void add(int kind, int place, int value) {
            if (count < kinds.length) {
                kinds[count] = (byte) kind;
                places[count] = place;
                values[count] = value;
                count++;
            }
        }

        /** Behind the end it is 0, a byte that no token and no blank has. */
        private int byteAt(int at) {
            return at >= 0 && at < length && at < text.length ? text[at] & 255 : 0;
        }

        private int behindBlanks(int from) {
            boolean remark = false;
            for (int at = from; at < length; at++) {
                int c = byteAt(at);
                if (remark) {
                    remark = c != '\n';
                } else if (c == '/' && byteAt(at + 1) == '/') {
                    remark = true;
                } else if (c != '\t' && c != '\n' && c != '\r' && c != ' ') {
                    return at;
                }
            }
            return length;
        }

        /** How many bytes the token has, 0 when there is none. */
        private int readToken(int at) {
            int c = byteAt(at);
            if (isDigit(c)) {
                return readNumber(at);
            }
            if (isInName(c)) {
                return readName(at);
            }
            return readSign(at);
        }

        private int readNumber(int at) {
            int size = 0;
            long number = 0;
            for (int i = at; i < length && isDigit(byteAt(i)); i++) {
                // Digits beyond the tenth need no reckoning: they are refused below.
                if (size < MOST_DIGITS) {
                    number = number * 10 + byteAt(i) - '0';
                }
                size++;
            }
            boolean zeroInFront = size > 1 && byteAt(at) == '0';
            if (size > MOST_DIGITS || zeroInFront || number > GREATEST_INT || isInName(byteAt(at + size))) {
                return 0;
            }
            add(NUMBER, at, (int) number);
            return size;
        }

        private int readName(int at) {
            int size = 0;
            for (int i = at; i < length && isInName(byteAt(i)); i++) {
                size++;
            }
            if (size > MOST_NAME_BYTES) {
                return 0;
            }
            add(wordOrName(at, size), at, size);
            return size;
        }

        private int wordOrName(int at, int size) {
            int kind = FUN;
            int alike = 0;
            for (int i = 0; i < WORDS.length; i++) {
                if (WORDS[i] == ' ') {
                    if (alike == size) {
                        return kind;
                    }
                    kind++;
                    alike = 0;
                } else if (alike >= 0 && alike < size && byteAt(at + alike) == WORDS[i]) {
                    alike++;
                } else {
                    alike = NONE;
                }
            }
            return NAME;
        }

        private int readSign(int at) {
            int c = byteAt(at);
            int kind = signOfTwo(c, byteAt(at + 1));
            if (kind != NO_TOKEN) {
                add(kind, at, 0);
                return 2;
            }
            kind = signOfOne(c);
            if (kind == NO_TOKEN) {
                return 0;
            }
            add(kind, at, 0);
            return 1;
        }

        private static int signOfTwo(int c, int next) {
            if (next == '=') {
                switch (c) {
                    case '<':
                        return AT_MOST;
                    case '>':
                        return AT_LEAST;
                    case '=':
                        return EQUAL;
                    case '!':
                        return UNEQUAL;
                    default:
                        return NO_TOKEN;
                }
            }
            if (c == '&' && next == '&') {
                return AND;
            }
            return c == '|' && next == '|' ? OR : NO_TOKEN;
        }

        private static int signOfOne(int c) {
            switch (c) {
                case '(':
                    return OPEN;
                case ')':
                    return CLOSE;
                case '{':
                    return OPEN_BLOCK;
                case '}':
                    return CLOSE_BLOCK;
                case '[':
                    return OPEN_PLACE;
                case ']':
                    return CLOSE_PLACE;
                case ',':
                    return COMMA;
                case ';':
                    return SEMICOLON;
                case '=':
                    return BECOMES;
                case '+':
                    return PLUS;
                case '-':
                    return MINUS;
                case '*':
                    return TIMES;
                case '/':
                    return OVER;
                case '%':
                    return REST;
                case '<':
                    return LESS;
                case '>':
                    return MORE;
                case '!':
                    return NOT;
                default:
                    return NO_TOKEN;
            }
        }

        private static boolean isDigit(int c) {
            return c >= '0' && c <= '9';
        }

        private static boolean isInName(int c) {
            return c >= 'a' && c <= 'z' || c >= 'A' && c <= 'Z' || c == '_' || isDigit(c);
        }
    }

    /**
     * What the Reader finds in a text: functions, statements in the order of the text, and the
     * operations of their SUMs and CONDs in the order in which they are reckoned. Operations
     * belong to a text, not to a point, so that a function called often needs no more room: its
     * slots are counted from those that are there when it is called.
     */
    private static final class Program {
        private final int[] functionNames = new int[MOST_FUNCTIONS];
        private final int[] parameters = new int[MOST_FUNCTIONS];
        private final int[] functionBegins = new int[MOST_FUNCTIONS];
        private final int[] functionEnds = new int[MOST_FUNCTIONS];
        private final boolean[] returning = new boolean[MOST_FUNCTIONS];
        private int functions;

        private final byte[] kinds = new byte[MOST_STATEMENTS];
        private final int[] firstTokens = new int[MOST_STATEMENTS];
        private final int[] firstOperations = new int[MOST_STATEMENTS];
        // Of an if the statement behind its first BLOCK, of a call how many SUMs it has.
        private final int[] details = new int[MOST_STATEMENTS];
        private final int[] statementEnds = new int[MOST_STATEMENTS];
        private int statements;

        private final byte[] operations = new byte[MOST_TOKENS];
        // The token of an operation; of && and || the operation to which they may leap.
        private final int[] operands = new int[MOST_TOKENS];
        private int operationCount;

        private final int[] slots = new int[MOST_TOKENS];

        void clear() {
            functions = 0;
            statements = 0;
            operationCount = 0;
        }

        private boolean isFunction(int f) {
            return f >= 0 && f < functions;
        }

        private boolean isStatement(int s) {
            return s >= 0 && s < statements;
        }

        private boolean isOperation(int o) {
            return o >= 0 && o < operationCount;
        }

        int functions() {
            return functions;
        }

        boolean openFunction(int name, int parameterCount) {
            if (functions >= functionNames.length) {
                return false;
            }
            functionNames[functions] = name;
            parameters[functions] = parameterCount;
            functionBegins[functions] = statements;
            functions++;
            return true;
        }

        void closeFunction(boolean returns) {
            int f = functions - 1;
            if (isFunction(f)) {
                functionEnds[f] = statements;
                returning[f] = returns;
            }
        }

        int nameOf(int f) {
            return isFunction(f) ? functionNames[f] : NONE;
        }

        int parametersOf(int f) {
            return isFunction(f) ? parameters[f] : 0;
        }

        /** In the head a ( stands behind the name, and a , between two parameters. */
        int parameterToken(int f, int i) {
            return nameOf(f) + 2 + 2 * i;
        }

        int beginOf(int f) {
            return isFunction(f) ? functionBegins[f] : 0;
        }

        int endOf(int f) {
            return isFunction(f) ? functionEnds[f] : 0;
        }

        boolean returns(int f) {
            return isFunction(f) && returning[f];
        }

        int openStatement(int kind, int firstToken) {
            if (statements >= kinds.length) {
                return NONE;
            }
            int s = statements;
            kinds[s] = (byte) kind;
            firstTokens[s] = firstToken;
            firstOperations[s] = operationCount;
            details[s] = 0;
            statements++;
            return s;
        }

        void closeStatement(int s) {
            if (isStatement(s)) {
                statementEnds[s] = statements;
            }
        }

        void closeFirstBlock(int s) {
            setDetail(s, statements);
        }

        void setDetail(int s, int detail) {
            if (isStatement(s)) {
                details[s] = detail;
            }
        }

        int kindOf(int s) {
            return isStatement(s) ? kinds[s] : THE_END;
        }

        int firstTokenOf(int s) {
            return isStatement(s) ? firstTokens[s] : NONE;
        }

        int detailOf(int s) {
            return isStatement(s) ? details[s] : 0;
        }

        int behind(int s) {
            return isStatement(s) ? statementEnds[s] : statements;
        }

        /** A statement's operations end where those of the next one in the text begin. */
        int firstOperationOf(int s) {
            return isStatement(s) ? firstOperations[s] : operationCount;
        }

        int operationCount() {
            return operationCount;
        }

        /** Each token brings at most one operation, so there is always room. */
        void addOperation(int operation, int operand) {
            if (operationCount < operations.length) {
                operations[operationCount] = (byte) operation;
                operands[operationCount] = operand;
                operationCount++;
            }
        }

        void leapToHere(int o) {
            if (isOperation(o)) {
                operands[o] = operationCount;
            }
        }

        int operationAt(int o) {
            return isOperation(o) ? operations[o] : END_OF_TEXT;
        }

        int operandAt(int o) {
            return isOperation(o) ? operands[o] : NONE;
        }

        void setSlot(int token, int slot) {
            if (token >= 0 && token < slots.length) {
                slots[token] = slot;
            }
        }

        int slotOf(int token) {
            return token >= 0 && token < slots.length ? slots[token] : NONE;
        }
    }

    /**
     * Reads the tokens as a TEXT. Each method answers whether it could; if not, the token at
     * which the reading stands is the fault, as none is passed before it is known to go on.
     * The depth that is handed on is that of the innermost BLOCK, SUM, COND, FACTOR behind - or
     * TEST behind ! there; at most three methods stand open for each.
     */
    private static final class Reader {
        private final Tokens tokens;
        private final Program program;
        private int at;
        private int latestStatement;

        Reader(Tokens tokens, Program program) {
            this.tokens = tokens;
            this.program = program;
        }

        int faultPlace() {
            return tokens.placeAt(at);
        }

        boolean readText() {
            at = 0;
            program.clear();
            for (int i = 0; i < MOST_FUNCTIONS; i++) {
                latestStatement = THE_END;
                if (!readHead() || !readBlock(1)) {
                    return false;
                }
                program.closeFunction(latestStatement == RETURN_STATEMENT);
                if (now() == END_OF_TEXT) {
                    return true;
                }
            }
            return false;
        }

        private int now() {
            return tokens.kindAt(at);
        }

        private boolean take(int kind) {
            if (tokens.kindAt(at) != kind) {
                return false;
            }
            at++;
            return true;
        }

        private boolean readHead() {
            if (!take(FUN)) {
                return false;
            }
            int name = at;
            if (!take(NAME) || !take(OPEN)) {
                return false;
            }
            int parameters = 0;
            if (now() != CLOSE) {
                parameters = readNames();
            }
            return parameters != NONE && take(CLOSE) && program.openFunction(name, parameters);
        }

        private int readNames() {
            if (!take(NAME)) {
                return NONE;
            }
            int count = 1;
            for (int i = 0; i < MOST_BYTES && take(COMMA); i++) {
                if (!take(NAME)) {
                    return NONE;
                }
                count++;
            }
            return count;
        }

        private boolean readBlock(int depth) {
            if (depth > MOST_DEEP || !take(OPEN_BLOCK)) {
                return false;
            }
            for (int i = 0; i < MOST_BYTES && now() != CLOSE_BLOCK; i++) {
                if (!readStatement(depth)) {
                    return false;
                }
            }
            return take(CLOSE_BLOCK);
        }

        private boolean readStatement(int depth) {
            int kind = statementKind();
            int s = kind == THE_END ? NONE : program.openStatement(kind, at);
            if (s == NONE) {
                return false;
            }
            boolean read;
            switch (kind) {
                case VAR_STATEMENT:
                    read = readVar(depth) && take(SEMICOLON);
                    break;
                case SET_STATEMENT:
                    read = take(NAME) && take(BECOMES) && readSum(depth + 1) && take(SEMICOLON);
                    break;
                case SET_PLACE_STATEMENT:
                    read = readSetPlace(depth) && take(SEMICOLON);
                    break;
                case CALL_STATEMENT:
                    read = readCall(s, depth) && take(SEMICOLON);
                    break;
                case ASSERT_STATEMENT:
                    read = take(ASSERT) && take(OPEN) && readCond(depth + 1)
                            && take(CLOSE) && take(SEMICOLON);
                    break;
                case RETURN_STATEMENT:
                    read = take(RETURN) && readSum(depth + 1) && take(SEMICOLON);
                    break;
                default:
                    read = readBranch(s, kind, depth);
                    break;
            }
            program.closeStatement(s);
            latestStatement = kind;
            return read;
        }

        private int statementKind() {
            switch (now()) {
                case VAR:
                    return VAR_STATEMENT;
                case IF:
                    return IF_STATEMENT;
                case WHILE:
                    return WHILE_STATEMENT;
                case ASSERT:
                    return ASSERT_STATEMENT;
                case RETURN:
                    return RETURN_STATEMENT;
                case NAME:
                    return kindBehindName();
                default:
                    return THE_END;
            }
        }

        private int kindBehindName() {
            int next = tokens.kindAt(at + 1);
            if (next == OPEN || next == BECOMES && isCallAt(at + 2)) {
                return CALL_STATEMENT;
            }
            return next == OPEN_PLACE ? SET_PLACE_STATEMENT : SET_STATEMENT;
        }

        private boolean isCallAt(int token) {
            return tokens.kindAt(token) == NAME && tokens.kindAt(token + 1) == OPEN;
        }

        private boolean readBranch(int s, int kind, int depth) {
            at++;
            if (!take(OPEN) || !readCond(depth + 1) || !take(CLOSE) || !readBlock(depth + 1)) {
                return false;
            }
            program.closeFirstBlock(s);
            return kind == WHILE_STATEMENT || !take(ELSE) || readBlock(depth + 1);
        }

        private boolean readVar(int depth) {
            if (!take(VAR) || !take(NAME)) {
                return false;
            }
            if (take(OPEN_PLACE)) {
                return take(NUMBER) && take(CLOSE_PLACE);
            }
            return !take(BECOMES) || readSum(depth + 1);
        }

        private boolean readSetPlace(int depth) {
            program.addOperation(ARRAY, at);
            if (!take(NAME) || !take(OPEN_PLACE) || !readSum(depth + 1) || !take(CLOSE_PLACE)) {
                return false;
            }
            program.addOperation(LOOK_AT_PLACE, NONE);
            return take(BECOMES) && readSum(depth + 1);
        }

        private boolean readCall(int s, int depth) {
            at += tokens.kindAt(at + 1) == BECOMES ? 4 : 2;
            int sums = 0;
            if (now() != CLOSE) {
                if (!readSum(depth + 1)) {
                    return false;
                }
                sums = 1;
                for (int i = 0; i < MOST_BYTES && take(COMMA); i++) {
                    if (!readSum(depth + 1)) {
                        return false;
                    }
                    sums++;
                }
            }
            program.setDetail(s, sums);
            return take(CLOSE);
        }

        private boolean readCond(int depth) {
            if (depth > MOST_DEEP || !readBoth(depth)) {
                return false;
            }
            for (int i = 0; i < MOST_BYTES && take(OR); i++) {
                int leap = program.operationCount();
                program.addOperation(OR, NONE);
                if (!readBoth(depth)) {
                    return false;
                }
                program.leapToHere(leap);
            }
            return true;
        }

        private boolean readBoth(int depth) {
            if (!readTest(depth)) {
                return false;
            }
            for (int i = 0; i < MOST_BYTES && take(AND); i++) {
                int leap = program.operationCount();
                program.addOperation(AND, NONE);
                if (!readTest(depth)) {
                    return false;
                }
                program.leapToHere(leap);
            }
            return true;
        }

        private boolean readTest(int depth) {
            if (take(NOT)) {
                if (depth >= MOST_DEEP || !readTest(depth + 1)) {
                    return false;
                }
                program.addOperation(NOT, NONE);
                return true;
            }
            if (take(OPEN_PLACE)) {
                return readCond(depth + 1) && take(CLOSE_PLACE);
            }
            if (!readSum(depth + 1)) {
                return false;
            }
            int relation = now();
            if (relation < LESS || relation > UNEQUAL) {
                return false;
            }
            at++;
            if (!readSum(depth + 1)) {
                return false;
            }
            program.addOperation(relation, NONE);
            return true;
        }

        private boolean readSum(int depth) {
            if (depth > MOST_DEEP || !readTerm(depth)) {
                return false;
            }
            for (int i = 0; i < MOST_BYTES && (now() == PLUS || now() == MINUS); i++) {
                int operation = now();
                at++;
                if (!readTerm(depth)) {
                    return false;
                }
                program.addOperation(operation, NONE);
            }
            return true;
        }

        private boolean readTerm(int depth) {
            if (!readFactor(depth)) {
                return false;
            }
            for (int i = 0; i < MOST_BYTES && now() >= TIMES && now() <= REST; i++) {
                int operation = now();
                at++;
                if (!readFactor(depth)) {
                    return false;
                }
                program.addOperation(operation, NONE);
            }
            return true;
        }

        private boolean readFactor(int depth) {
            int token = at;
            switch (now()) {
                case NUMBER:
                    program.addOperation(NUMBER, token);
                    return take(NUMBER);
                case ANY:
                    program.addOperation(ANY, token);
                    at++;
                    return !take(OPEN) || readLimit() && take(COMMA) && readLimit() && take(CLOSE);
                case OPEN:
                    at++;
                    return readSum(depth + 1) && take(CLOSE);
                case MINUS:
                    at++;
                    if (depth >= MOST_DEEP || !readFactor(depth + 1)) {
                        return false;
                    }
                    program.addOperation(NEGATE, NONE);
                    return true;
                case NAME:
                    at++;
                    if (!take(OPEN_PLACE)) {
                        program.addOperation(NAME, token);
                        return true;
                    }
                    program.addOperation(ARRAY, token);
                    if (!readSum(depth + 1) || !take(CLOSE_PLACE)) {
                        return false;
                    }
                    program.addOperation(TAKE_PLACE, NONE);
                    return true;
                default:
                    return false;
            }
        }

        private boolean readLimit() {
            if (now() == MINUS) {
                at++;
            }
            return take(NUMBER);
        }
    }

    /** The points of a program. */
    private static final class Points {
        private final byte[] kinds = new byte[MOST_POINTS];
        private final int[] places = new int[MOST_POINTS];
        private final int[] statements = new int[MOST_POINTS];
        private final int[] numbers = new int[MOST_POINTS];
        private final int[] arrays = new int[MOST_POINTS];
        // How many of these are not the function's own, in which the statement stands.
        private final int[] foreignNumbers = new int[MOST_POINTS];
        private final int[] foreignArrays = new int[MOST_POINTS];
        // The if, while or call in which a point lies.
        private final int[] parents = new int[MOST_POINTS];
        private final boolean[] lasts = new boolean[MOST_POINTS];
        // The slot to which the value of a call goes.
        private final int[] targets = new int[MOST_POINTS];
        private final int[] behinds = new int[MOST_POINTS];
        private final int[] intos = new int[MOST_POINTS];
        private final int[] others = new int[MOST_POINTS];
        private final int[] nexts = new int[MOST_POINTS];
        // A new object has only the end, whose rows are all 0.
        private int count = 1;

        void clear() {
            count = 0;
        }

        void leaveOnlyTheEnd() {
            clear();
            addTheEnd();
        }

        private boolean isPoint(int p) {
            return p >= 0 && p < count;
        }

        int count() {
            return count;
        }

        int add(int kind, int place, int statement) {
            if (count >= kinds.length) {
                return NONE;
            }
            int p = count;
            kinds[p] = (byte) kind;
            places[p] = place;
            statements[p] = statement;
            targets[p] = NONE;
            behinds[p] = p + 1;
            intos[p] = NONE;
            others[p] = NONE;
            count++;
            return p;
        }

        void setParent(int p, int parent, boolean last) {
            if (isPoint(p)) {
                parents[p] = parent;
                lasts[p] = last;
            }
        }

        void setThere(int p, int numberCount, int arrayCount) {
            if (isPoint(p)) {
                numbers[p] = numberCount;
                arrays[p] = arrayCount;
            }
        }

        void setForeign(int p, int numberCount, int arrayCount) {
            if (isPoint(p)) {
                foreignNumbers[p] = numberCount;
                foreignArrays[p] = arrayCount;
            }
        }

        void setTarget(int p, int slot) {
            if (isPoint(p)) {
                targets[p] = slot;
            }
        }

        /** The first BLOCK of a point, or a function's, is not empty. */
        void goInto(int p) {
            if (isPoint(p)) {
                intos[p] = p + 1;
            }
        }

        void beginOther(int p) {
            if (isPoint(p)) {
                others[p] = count;
            }
        }

        void close(int p) {
            if (isPoint(p)) {
                behinds[p] = count;
            }
        }

        /** Where runs go can be told only now: what lies behind a BLOCK is laid after it. */
        void finish() {
            int last = count;
            addTheEnd();
            for (int p = 0; p < last && p < nexts.length; p++) {
                nexts[p] = lasts[p] ? behindBlock(parents[p], last) : behinds[p];
                int behindNothing = kinds[p] == WHILE_STATEMENT ? p : nexts[p];
                intos[p] = intos[p] == NONE ? behindNothing : intos[p];
                others[p] = others[p] == NONE ? nexts[p] : others[p];
            }
        }

        private int behindBlock(int parent, int last) {
            if (!isPoint(parent)) {
                return last;
            }
            return kinds[parent] == WHILE_STATEMENT ? parent : nexts[parent];
        }

        private void addTheEnd() {
            int p = add(THE_END, 0, NONE);
            setParent(p, NONE, true);
            setThere(p, 0, 0);
            setForeign(p, 0, 0);
            if (isPoint(p)) {
                nexts[p] = p;
            }
        }

        int kindOf(int p) {
            return isPoint(p) ? kinds[p] : THE_END;
        }

        int placeOf(int p) {
            return isPoint(p) ? places[p] : 0;
        }

        int statementOf(int p) {
            return isPoint(p) ? statements[p] : NONE;
        }

        int numbersAt(int p) {
            return isPoint(p) ? numbers[p] : 0;
        }

        int arraysAt(int p) {
            return isPoint(p) ? arrays[p] : 0;
        }

        int foreignNumbersAt(int p) {
            return isPoint(p) ? foreignNumbers[p] : 0;
        }

        int foreignArraysAt(int p) {
            return isPoint(p) ? foreignArrays[p] : 0;
        }

        int parentOf(int p) {
            return isPoint(p) ? parents[p] : NONE;
        }

        int targetOf(int p) {
            return isPoint(p) ? targets[p] : NONE;
        }

        int nextOf(int p) {
            return isPoint(p) ? nexts[p] : NONE;
        }

        int intoOf(int p) {
            return isPoint(p) ? intos[p] : NONE;
        }

        int otherOf(int p) {
            return isPoint(p) ? others[p] : NONE;
        }
    }

    /** The variables that are there, in the order in which they came. */
    private static final class Scope {
        private static final int MOST = MOST_NUMBERS + MOST_ARRAYS;
        private final Tokens tokens;
        private final int[] names = new int[MOST];
        private final int[] slots = new int[MOST];
        private final boolean[] isArray = new boolean[MOST];
        private int numbers;
        private int arrays;

        Scope(Tokens tokens) {
            this.tokens = tokens;
        }

        int numbers() {
            return numbers;
        }

        int arrays() {
            return arrays;
        }

        void cutTo(int numberCount, int arrayCount) {
            numbers = numberCount;
            arrays = arrayCount;
        }

        void add(int name, boolean array) {
            int v = numbers + arrays;
            if (v < 0 || v >= names.length) {
                return;
            }
            names[v] = name;
            isArray[v] = array;
            if (array) {
                slots[v] = arrays;
                arrays++;
            } else {
                slots[v] = numbers;
                numbers++;
            }
        }

        /** The latest one of that name among those from the given one on, or NONE. */
        int find(int name, int from) {
            for (int v = numbers + arrays - 1; v >= from; v--) {
                if (isVariable(v) && tokens.sameName(names[v], name)) {
                    return v;
                }
            }
            return NONE;
        }

        boolean isArray(int v) {
            return isVariable(v) && isArray[v];
        }

        int slotOf(int v) {
            return isVariable(v) ? slots[v] : NONE;
        }

        private boolean isVariable(int v) {
            return v >= 0 && v < names.length;
        }
    }

    /**
     * Lays out the points, each call with those of its function, and tells what is wrong. As
     * calls may lie some 250 deep in one another, open BLOCKs stand in rows and not in methods.
     */
    private static final class Layout {
        private final Tokens tokens;
        private final Program program;
        private final Points points;
        private final Scope scope;

        private final int[] nextStatements = new int[MOST_POINTS];
        private final int[] blockEnds = new int[MOST_POINTS];
        // Of an if's first BLOCK where the other one ends, else where it ends itself.
        private final int[] otherEnds = new int[MOST_POINTS];
        private final int[] parents = new int[MOST_POINTS];
        private final int[] functions = new int[MOST_POINTS];
        private int open;

        // Of the statement that is being laid.
        private int block;
        private int foreignNumbers;
        private int foreignArrays;
        private int called;

        private int wrong;
        private int where;

        Layout(Tokens tokens, Program program, Points points) {
            this.tokens = tokens;
            this.program = program;
            this.points = points;
            scope = new Scope(tokens);
        }

        int whatIsWrong() {
            return wrong;
        }

        int whereItIs() {
            return where;
        }

        boolean layProgram() {
            points.clear();
            scope.cutTo(0, 0);
            open = 0;
            int last = program.functions() - 1;
            if (program.parametersOf(last) > 0) {
                return isWrong(PROGRAM_AS_FUNCTION, program.nameOf(last));
            }
            openFunction(last, NONE);
            for (int turn = 0; turn < MOST_TURNS && open > 0; turn++) {
                block = open - 1;
                int s = takeStatement();
                if (s == NONE) {
                    endBlock();
                } else if (holds(s)) {
                    layStatement(s);
                } else {
                    return false;
                }
            }
            points.finish();
            return true;
        }

        /** Always false, so that a check can answer with it. */
        private boolean isWrong(int what, int token) {
            wrong = what;
            where = tokens.placeAt(token);
            return false;
        }

        private boolean isOpen() {
            return block >= 0 && block < open && block < parents.length;
        }

        /** The next statement of the innermost BLOCK, NONE when it has no more. */
        private int takeStatement() {
            if (!isOpen() || nextStatements[block] >= blockEnds[block]) {
                return NONE;
            }
            int s = nextStatements[block];
            nextStatements[block] = program.behind(s);
            return s;
        }

        private void endBlock() {
            int p = parent();
            scope.cutTo(points.numbersAt(p), points.arraysAt(p));
            if (isOpen() && blockEnds[block] < otherEnds[block]) {
                blockEnds[block] = otherEnds[block];
                points.beginOther(p);
            } else {
                points.close(p);
                open--;
            }
        }

        private void openFunction(int f, int parent) {
            openBlock(parent, f, program.beginOf(f), program.endOf(f), program.endOf(f));
        }

        private void openBlock(int parent, int f, int begin, int blockEnd, int otherEnd) {
            if (open < 0 || open >= parents.length) {
                return;
            }
            parents[open] = parent;
            functions[open] = f;
            nextStatements[open] = begin;
            blockEnds[open] = blockEnd;
            otherEnds[open] = otherEnd;
            open++;
            if (begin < blockEnd) {
                points.goInto(parent);
            }
        }

        private int parent() {
            return isOpen() ? parents[block] : NONE;
        }

        private int function() {
            return isOpen() ? functions[block] : NONE;
        }

        private boolean isLast(int s) {
            return isOpen() && program.behind(s) == blockEnds[block];
        }

        /** How many variables were there before the BLOCK and its function's parameters. */
        private int blockBegin() {
            return points.numbersAt(parent()) + points.arraysAt(parent());
        }

        private void findForeign() {
            int p = parent();
            boolean inCall = points.kindOf(p) == CALL_STATEMENT;
            foreignNumbers = inCall ? points.numbersAt(p) : points.foreignNumbersAt(p);
            foreignArrays = inCall ? points.arraysAt(p) : points.foreignArraysAt(p);
        }

        private void layStatement(int s) {
            int first = program.firstTokenOf(s);
            int p = points.add(program.kindOf(s), tokens.placeAt(first), s);
            points.setParent(p, parent(), isLast(s));
            points.setThere(p, scope.numbers(), scope.arrays());
            points.setForeign(p, foreignNumbers, foreignArrays);
            switch (program.kindOf(s)) {
                case VAR_STATEMENT:
                    scope.add(first + 1, tokens.kindAt(first + 2) == OPEN_PLACE);
                    break;
                case IF_STATEMENT:
                    openBlock(p, function(), s + 1, program.detailOf(s), program.behind(s));
                    break;
                case WHILE_STATEMENT:
                    openBlock(p, function(), s + 1, program.behind(s), program.behind(s));
                    break;
                case CALL_STATEMENT:
                    layCall(p, first);
                    break;
                default:
                    break;
            }
        }

        private void layCall(int p, int first) {
            if (tokens.kindAt(first + 1) == BECOMES) {
                points.setTarget(p, foreignNumbers + program.slotOf(first));
            }
            for (int i = 0; i < program.parametersOf(called); i++) {
                scope.add(program.parameterToken(called, i), false);
            }
            openFunction(called, p);
        }

        private boolean holds(int s) {
            int kind = program.kindOf(s);
            int first = program.firstTokenOf(s);
            // The end needs a point, too.
            if (points.count() + 2 > MOST_POINTS) {
                return isWrong(TOO_MANY_POINTS, first);
            }
            called = NONE;
            findForeign();
            if (kind == RETURN_STATEMENT && !returnHolds(s, first)) {
                return false;
            }
            if (kind == VAR_STATEMENT && !varHolds(first)) {
                return false;
            }
            // A var's own name means nothing yet, so what is looked up begins behind it.
            int from = kind == VAR_STATEMENT ? first + 2 : first;
            return tokensHold(s, from) && parametersHold() && thereIsRoom(kind, first);
        }

        private boolean returnHolds(int s, int first) {
            boolean inProgram = parent() == NONE;
            boolean inFunctionBlock = inProgram || points.kindOf(parent()) == CALL_STATEMENT;
            if (!inFunctionBlock || !isLast(s)) {
                return isWrong(RETURN_AMISS, first);
            }
            return !inProgram || isWrong(PROGRAM_AS_FUNCTION, first);
        }

        private boolean varHolds(int first) {
            if (scope.find(first + 1, blockBegin()) != NONE) {
                return isWrong(NAME_TWICE, first + 1);
            }
            if (tokens.kindAt(first + 2) != OPEN_PLACE) {
                return true;
            }
            int places = tokens.valueAt(first + 3);
            return places >= 1 && places <= MOST_PLACES || isWrong(PLACES_AMISS, first + 3);
        }

        /** What a statement holds by itself ends with its ; or where its BLOCK begins. */
        private boolean tokensHold(int s, int from) {
            boolean hold = true;
            for (int t = from; t < tokens.count() && hold; t++) {
                int kind = tokens.kindAt(t);
                if (kind == SEMICOLON || kind == OPEN_BLOCK) {
                    return true;
                }
                int next = tokens.kindAt(t + 1);
                if (kind == NAME) {
                    hold = next == OPEN ? callHolds(s, t) : nameHolds(t, next == OPEN_PLACE);
                } else if (kind == ANY && next == OPEN) {
                    hold = limitsHold(t + 2);
                }
            }
            return hold;
        }

        private boolean limitsHold(int first) {
            int second = tokens.secondLimit(first);
            return tokens.limitAt(first) <= tokens.limitAt(second) || isWrong(LIMITS_CROSSED, first);
        }

        private boolean nameHolds(int t, boolean arrayWanted) {
            int v = scope.find(t, foreignNumbers + foreignArrays);
            if (v == NONE) {
                return isWrong(NO_MEANING, t);
            }
            if (scope.isArray(v) != arrayWanted) {
                return isWrong(ARRAY_OR_NUMBER, t);
            }
            program.setSlot(t, scope.slotOf(v) - (arrayWanted ? foreignArrays : foreignNumbers));
            return true;
        }

        private boolean callHolds(int s, int t) {
            int f = functionMeant(t);
            if (f == NONE) {
                return isWrong(NO_FUNCTION, t);
            }
            if (program.detailOf(s) != program.parametersOf(f)) {
                return isWrong(OTHER_SUMS, t);
            }
            boolean valueWanted = t != program.firstTokenOf(s);
            if (valueWanted && !program.returns(f)) {
                return isWrong(RETURN_AMISS, t);
            }
            called = f;
            return true;
        }

        /** Only functions that end before the one in which the call stands can be meant. */
        private int functionMeant(int t) {
            for (int f = function() - 1; f >= 0; f--) {
                if (tokens.sameName(program.nameOf(f), t)) {
                    return f;
                }
            }
            return NONE;
        }

        private boolean parametersHold() {
            for (int i = 1; i < program.parametersOf(called); i++) {
                int name = program.parameterToken(called, i);
                for (int j = 0; j < i; j++) {
                    if (tokens.sameName(name, program.parameterToken(called, j))) {
                        return isWrong(NAME_TWICE, name);
                    }
                }
            }
            return true;
        }

        private boolean thereIsRoom(int kind, int first) {
            if (kind == VAR_STATEMENT && tokens.kindAt(first + 2) == OPEN_PLACE) {
                return scope.arrays() < MOST_ARRAYS || isWrong(TOO_MANY_ARRAYS, first);
            }
            int more = kind == VAR_STATEMENT ? 1 : program.parametersOf(called);
            return scope.numbers() + more <= MOST_NUMBERS || isWrong(TOO_MANY_NUMBERS, first);
        }
    }

    /** Runs the points, and keeps the inputs and where the latest run stands. */
    private static final class Machine {
        private final Tokens tokens;
        private final Program program;
        private final Points points;
        private final int[] inputs = new int[MOST_INPUTS];
        private int inputCount;

        private final int[] numbers = new int[MOST_NUMBERS];
        private final int[] sizes = new int[MOST_ARRAYS];
        private final int[] places = new int[MOST_ARRAYS * MOST_PLACES];
        private int at;
        private int done;
        private int taken;
        private int trap;

        // Values that wait for the rest of their statement.
        private final int[] waiting = new int[MOST_WAITING];
        private int waitingCount;

        Machine(Tokens tokens, Program program, Points points) {
            this.tokens = tokens;
            this.program = program;
            this.points = points;
        }

        int addInput(int x) {
            if (inputCount < 0 || inputCount >= inputs.length) {
                return NONE;
            }
            inputs[inputCount] = x;
            inputCount++;
            return inputCount;
        }

        int dropInputs() {
            int were = inputCount;
            inputCount = 0;
            return were;
        }

        /** At point 0 there are no variables yet, so no slot has a value there. */
        void forget() {
            at = 0;
            done = 0;
            taken = 0;
            trap = 0;
        }

        int standsAt() {
            return at;
        }

        int stepsDone() {
            return done;
        }

        int inputsTaken() {
            return taken;
        }

        int numberIn(int slot) {
            return slot >= 0 && slot < points.numbersAt(at) ? getNumber(slot) : 0;
        }

        int placeIn(int array, int i) {
            boolean there = array >= 0 && array < points.arraysAt(at) && hasPlace(array, i);
            return there ? getPlace(array, i) : 0;
        }

        int runSteps(int steps) {
            forget();
            for (int i = 0; i < steps && trap == 0 && points.kindOf(at) != THE_END; i++) {
                done++;
                at = step(at);
            }
            if (trap != 0) {
                return trap;
            }
            return points.kindOf(at) == THE_END ? CAME_TO_END : STEPS_DONE;
        }

        /** The point that comes next; with a trap the same one, and nothing is changed. */
        private int step(int p) {
            reckon(p);
            if (trap != 0) {
                return p;
            }
            switch (points.kindOf(p)) {
                case VAR_STATEMENT:
                    beginVariable(p);
                    return points.nextOf(p);
                case SET_STATEMENT:
                    setNumber(slotOfName(p, firstToken(p)), waitingAt(0));
                    return points.nextOf(p);
                case SET_PLACE_STATEMENT:
                    setPlace(waitingAt(0), waitingAt(1), waitingAt(2));
                    return points.nextOf(p);
                case CALL_STATEMENT:
                    for (int i = 0; i < waitingCount; i++) {
                        setNumber(points.numbersAt(p) + i, waitingAt(i));
                    }
                    return points.intoOf(p);
                case IF_STATEMENT:
                    return waitingAt(0) != 0 ? points.intoOf(p) : points.otherOf(p);
                case WHILE_STATEMENT:
                    return waitingAt(0) != 0 ? points.intoOf(p) : points.nextOf(p);
                case ASSERT_STATEMENT:
                    trap = waitingAt(0) != 0 ? 0 : NOT_HELD;
                    return trap != 0 ? p : points.nextOf(p);
                default:
                    // A return is always laid in the call itself, whose target it fills.
                    setNumber(points.targetOf(points.parentOf(p)), waitingAt(0));
                    return points.nextOf(p);
            }
        }

        private int firstToken(int p) {
            return program.firstTokenOf(points.statementOf(p));
        }

        private int slotOfName(int p, int token) {
            return points.foreignNumbersAt(p) + program.slotOf(token);
        }

        private void beginVariable(int p) {
            int first = firstToken(p);
            if (tokens.kindAt(first + 2) == OPEN_PLACE) {
                beginArray(points.arraysAt(p), tokens.valueAt(first + 3));
            } else {
                setNumber(points.numbersAt(p), waitingCount > 0 ? waitingAt(0) : 0);
            }
        }

        private void beginArray(int array, int size) {
            if (array < 0 || array >= sizes.length) {
                return;
            }
            sizes[array] = size;
            for (int i = 0; i < MOST_PLACES; i++) {
                places[array * MOST_PLACES + i] = 0;
            }
        }

        private boolean hasPlace(int array, int i) {
            return array >= 0 && array < sizes.length && i >= 0 && i < sizes[array] && i < MOST_PLACES;
        }

        private int getPlace(int array, int i) {
            return hasPlace(array, i) ? places[array * MOST_PLACES + i] : 0;
        }

        private void setPlace(int array, int i, int x) {
            if (hasPlace(array, i)) {
                places[array * MOST_PLACES + i] = x;
            }
        }

        private int getNumber(int slot) {
            return slot >= 0 && slot < numbers.length ? numbers[slot] : 0;
        }

        /** The slot NONE, that of a call without a NAME in front, takes nothing. */
        private void setNumber(int slot, int x) {
            if (slot >= 0 && slot < numbers.length) {
                numbers[slot] = x;
            }
        }

        private int waitingAt(int i) {
            return i >= 0 && i < waitingCount && i < waiting.length ? waiting[i] : 0;
        }

        private void push(int x) {
            if (waitingCount >= 0 && waitingCount < waiting.length) {
                waiting[waitingCount] = x;
                waitingCount++;
            }
        }

        private int pop() {
            if (waitingCount <= 0 || waitingCount > waiting.length) {
                return 0;
            }
            waitingCount--;
            return waiting[waitingCount];
        }

        private void pushTruth(boolean holds) {
            push(holds ? 1 : 0);
        }

        private void pushIfInt(long x) {
            if (x < LEAST_INT || x > GREATEST_INT) {
                trap = NO_INT;
            } else {
                push((int) x);
            }
        }

        private void reckon(int p) {
            waitingCount = 0;
            int s = points.statementOf(p);
            int behind = program.firstOperationOf(s + 1);
            for (int o = program.firstOperationOf(s); o < behind && trap == 0; o++) {
                int operation = program.operationAt(o);
                int operand = program.operandAt(o);
                if (operation == AND || operation == OR) {
                    boolean held = waitingAt(waitingCount - 1) != 0;
                    if (held == (operation == OR)) {
                        // What is behind doesn't matter: leaps go forward only.
                        o = Math.max(o, operand - 1);
                    } else {
                        pop();
                    }
                } else if (operation >= PLUS && operation <= REST) {
                    reckonTwo(operation);
                } else if (operation >= LESS && operation <= UNEQUAL) {
                    compareTwo(operation);
                } else {
                    reckonOne(p, operation, operand);
                }
            }
        }

        private void reckonTwo(int operation) {
            int b = pop();
            int a = pop();
            switch (operation) {
                case PLUS:
                    pushIfInt((long) a + b);
                    break;
                case MINUS:
                    pushIfInt((long) a - b);
                    break;
                case TIMES:
                    pushIfInt((long) a * b);
                    break;
                default:
                    if (b == 0) {
                        trap = BY_ZERO;
                    } else {
                        pushIfInt(operation == OVER ? (long) a / b : (long) a % b);
                    }
                    break;
            }
        }

        private void compareTwo(int relation) {
            int b = pop();
            int a = pop();
            switch (relation) {
                case LESS:
                    pushTruth(a < b);
                    break;
                case AT_MOST:
                    pushTruth(a <= b);
                    break;
                case MORE:
                    pushTruth(a > b);
                    break;
                case AT_LEAST:
                    pushTruth(a >= b);
                    break;
                case EQUAL:
                    pushTruth(a == b);
                    break;
                default:
                    pushTruth(a != b);
                    break;
            }
        }

        private void reckonOne(int p, int operation, int token) {
            switch (operation) {
                case NUMBER:
                    push(tokens.valueAt(token));
                    break;
                case NAME:
                    push(getNumber(slotOfName(p, token)));
                    break;
                case ARRAY:
                    push(points.foreignArraysAt(p) + program.slotOf(token));
                    break;
                case LOOK_AT_PLACE:
                    lookAtPlace();
                    break;
                case TAKE_PLACE:
                    takePlace();
                    break;
                case NEGATE:
                    pushIfInt(-(long) pop());
                    break;
                case NOT:
                    pushTruth(pop() == 0);
                    break;
                default:
                    push(takeAny(token));
                    break;
            }
        }

        private void lookAtPlace() {
            if (!hasPlace(waitingAt(waitingCount - 2), waitingAt(waitingCount - 1))) {
                trap = NO_PLACE;
            }
        }

        private void takePlace() {
            lookAtPlace();
            int i = pop();
            int array = pop();
            push(getPlace(array, i));
        }

        private int takeAny(int token) {
            int x = 0;
            if (taken >= 0 && taken < inputCount && taken < inputs.length) {
                x = inputs[taken];
                taken++;
            }
            if (tokens.kindAt(token + 1) != OPEN) {
                return x;
            }
            int least = tokens.limitAt(token + 2);
            int most = tokens.limitAt(tokens.secondLimit(token + 2));
            return x >= least && x <= most ? x : least;
        }
    }
}
