/**
 * Threads that take turns and throw to each other. The document ../shared/DOC.md says what each
 * call promises; words in capitals here are the document's own.
 */
public final class MaskedThrows {
    public static final int NONE = -1;

    private static final int FAULTY = -2;
    private static final int MOST_TAPED = 800;
    private static final int FED_AT_ONCE = 20;
    private static final int MOST_PROGRAMS = 12;
    private static final int MOST_STATEMENTS = 40;
    private static final int MOST_BODIES = 8;
    private static final int MOST_WITHIN_ONE_ANOTHER = 8;
    private static final int MOST_UNARIES = 60;
    private static final int MOST_DIGITS = 9;
    private static final int NUMBERS = 1000000000;
    private static final int MOST_NOTES = 400;
    private static final int MOST_FROM_OUTSIDE = 8;
    private static final int MOST_TURNS = 2000;
    private static final int THREADS = 6;
    private static final int BOXES = 8;
    private static final int LOCALS = 10;

    // Kinds of tokens. A statement's kind is that of its first token; a sign's kind is its byte.
    private static final int TEXT_END = 0;
    private static final int BAD = 1;
    private static final int LOCAL = 2;
    private static final int BOX = 3;
    private static final int NUMBER = 4;
    private static final int NOTE = 5;
    private static final int IF = 6;
    private static final int ELSE = 7;
    private static final int WHILE = 8;
    private static final int TAKE = 9;
    private static final int TO = 10;
    private static final int PUT = 11;
    private static final int IN = 12;
    private static final int THROW = 13;
    private static final int SEND = 14;
    private static final int MASK = 15;
    private static final int HARD = 16;
    private static final int OPEN = 17;
    private static final int TRY = 18;
    private static final int CATCH = 19;
    private static final int FIRST = 20;
    private static final int USE = 21;
    private static final int LAST = 22;
    private static final int WITHIN = 23;

    private static final int WORD_KINDS = 19;
    private static final int WORD_WIDTH = 6;
    /** The WORDS in the order of their kinds, from NOTE on, each filled up to WORD_WIDTH. */
    private static final String WORDS =
        "note  if    else  while take  to    put   in    throw send  mask  hard  open  try   catch first use   last  within";
    private static final String SIGNS = "=;(){}<#+-*";

    /** A code of worked exps beside NUMBER, LOCAL and the signs between two operands. */
    private static final int NEGATE = 24;
    /** A unary gives one code at most, and all but one of them a sign between two operands. */
    private static final int MOST_CODES = 2 * MOST_UNARIES;

    /** What stands behind the last statement of a body. */
    private static final int BODY_END = -1;
    /** A body that the text does not have, unlike one that is empty. */
    private static final int NO_BODY = -2;
    private static final int PARTS = 3;
    private static final int WHOLE_PROGRAM = PARTS * MOST_STATEMENTS;
    private static final int USE_PART = 1;
    private static final int LAST_PART = 2;

    private static final int RUNS = 1;
    private static final int DONE = 2;
    private static final int DIED = 3;

    private static final int UNMASKED = 0;
    private static final int MASKED = 1;
    private static final int HARDENED = 2;

    private static final int STEPPED = 0;
    private static final int THREW = 1;
    private static final int ENDED = 2;
    private static final int PERISHED = 3;
    private static final int WAITS = 4;
    /** Never an answer: a TURN has come to where the fiber's 'thrown' is to be THROWN. */
    private static final int THROWS = 5;

    private static final int FROM_OUTSIDE = 6;
    private static final int FROM_TIMEOUT = 7;
    /** 8 from outside, one of each other THREAD, one TIMEOUT of each body. */
    private static final int MOST_IN_ROW = MOST_FROM_OUTSIDE + THREADS + MOST_BODIES;

    private static final int TELLS_VALUE = 0;
    private static final int TELLS_TAKEN = 1;
    private static final int TELLS_USE = 2;
    private static final int TELLS_LAST = 3;
    private static final int TELLS_DONE = 4;
    private static final int TELLS_DIED = 5;

    private static final int NO_TIMEOUT = 0;
    private static final int AWAITED = 1;
    private static final int CAME = 2;

    private static final long DRAW_FACTOR = 6364136223846793005L;
    private static final long DRAW_STEP = 1442695040888963407L;
    private static final int DRAW_SHIFT = 61;

    private final int[] tape;
    private int taped;
    private final Parser parser;
    private final Program[] programs;
    private int programCount;
    private int faultPlace;
    private final World world;

    public MaskedThrows() {
        tape = new int[MOST_TAPED];
        parser = new Parser();
        programs = new Program[MOST_PROGRAMS];
        for (int i = 0; i < MOST_PROGRAMS; i++) {
            programs[i] = new Program();
        }
        faultPlace = NONE;
        world = new World();
    }

    public int feed(int a, int b, int c, int d, int e) {
        if (taped + FED_AT_ONCE > MOST_TAPED) {
            return NONE;
        }
        putOnTape(a);
        putOnTape(b);
        putOnTape(c);
        putOnTape(d);
        putOnTape(e);
        return taped;
    }

    private void putOnTape(int fourBytes) {
        for (int shift = 24; shift >= 0; shift -= 8) {
            tape[taped] = (fourBytes >>> shift) & 255;
            taped++;
        }
    }

    public int end(int n) {
        if (n < 0 || n > FED_AT_ONCE || taped < FED_AT_ONCE) {
            return NONE;
        }
        taped = taped - FED_AT_ONCE + n;
        return taped;
    }

    public int text() {
        if (programCount >= MOST_PROGRAMS) {
            return NONE;
        }
        faultPlace = parser.parse(tape, taped, programs[programCount]);
        taped = 0;
        if (faultPlace != NONE) {
            return FAULTY;
        }
        programCount++;
        return programCount - 1;
    }

    public int place() {
        return faultPlace;
    }

    public int told(int program, int what) {
        if (!isProgram(program)) {
            return NONE;
        }
        switch (what) {
            case 0:
                return programs[program].statementCount;
            case 1:
                return programs[program].unaryCount;
            case 2:
                return programs[program].deepest;
            default:
                return NONE;
        }
    }

    public int start(int thread, int program) {
        if (!isThread(thread) || !isProgram(program) || runs(thread)) {
            return NONE;
        }
        world.fibers[thread].begin(programs[program]);
        return 1;
    }

    public int turn(int thread) {
        if (!runs(thread)) {
            return NONE;
        }
        return world.takeTurn(world.fibers[thread]);
    }

    public int play(long seed, int n) {
        if (n < 0 || n > MOST_TURNS) {
            return NONE;
        }
        int steps = 0;
        long drawn = seed;
        for (int i = 0; i < n; i++) {
            drawn = DRAW_FACTOR * drawn + DRAW_STEP;
            int thread = (int) (drawn >>> DRAW_SHIFT);
            if (runs(thread) && world.takeTurn(world.fibers[thread]) != WAITS) {
                steps++;
            }
        }
        return steps;
    }

    public int hurl(int thread, long v) {
        if (!runs(thread)) {
            return NONE;
        }
        Row row = world.fibers[thread].row;
        if (row.countFrom(FROM_OUTSIDE) >= MOST_FROM_OUTSIDE) {
            return NONE;
        }
        row.append(FROM_OUTSIDE, 0, v);
        return row.count;
    }

    public int fill(int box, long v) {
        if (!isBox(box) || world.boxFull[box]) {
            return NONE;
        }
        world.boxFull[box] = true;
        world.boxNumber[box] = v;
        return 1;
    }

    public int full(int box) {
        if (!isBox(box)) {
            return NONE;
        }
        return world.boxFull[box] ? 1 : 0;
    }

    public long box(int box) {
        if (!isBox(box) || !world.boxFull[box]) {
            return 0;
        }
        return world.boxNumber[box];
    }

    public int thread(int thread, int what) {
        if (!isThread(thread)) {
            return NONE;
        }
        Fiber fiber = world.fibers[thread];
        switch (what) {
            case 0:
                return fiber.state;
            case 1:
                return fiber.strength;
            case 2:
                return fiber.steps;
            case 3:
                return fiber.row.count;
            case 4:
                return fiber.depth;
            case 5:
                return fiber.awaited;
            case 6:
                return fiber.holdsValue() ? 1 : 0;
            default:
                return NONE;
        }
    }

    public long died(int thread) {
        return isThread(thread) ? world.fibers[thread].diedOf : 0;
    }

    public long local(int thread, int letter) {
        if (!isThread(thread) || letter < 0 || letter >= LOCALS) {
            return 0;
        }
        return world.fibers[thread].locals[letter];
    }

    public int row(int thread, int i, int what) {
        if (!isInRow(thread, i)) {
            return NONE;
        }
        Row row = world.fibers[thread].row;
        switch (what) {
            case 0:
                return row.senders[i];
            case 1:
                return row.depths[i];
            default:
                return NONE;
        }
    }

    public long value(int thread, int i) {
        return isInRow(thread, i) ? world.fibers[thread].row.values[i] : 0;
    }

    public int stuck() {
        return world.anyWouldStep() ? 0 : 1;
    }

    public int clock() {
        return world.chronicle.now;
    }

    public int notes() {
        return world.chronicle.count;
    }

    public int note(int i, int what) {
        if (!isNote(i)) {
            return NONE;
        }
        switch (what) {
            case 0:
                return world.chronicle.kinds[i];
            case 1:
                return world.chronicle.threads[i];
            case 2:
                return world.chronicle.times[i];
            default:
                return NONE;
        }
    }

    public long noted(int i) {
        return isNote(i) ? world.chronicle.values[i] : 0;
    }

    public int clear() {
        int before = world.chronicle.count;
        world.reset();
        return before;
    }

    private boolean isProgram(int program) {
        return program >= 0 && program < programCount;
    }

    private static boolean isThread(int thread) {
        return thread >= 0 && thread < THREADS;
    }

    private boolean runs(int thread) {
        return isThread(thread) && world.fibers[thread].state == RUNS;
    }

    private static boolean isBox(int box) {
        return box >= 0 && box < BOXES;
    }

    private boolean isInRow(int thread, int i) {
        return isThread(thread) && i >= 0 && i < world.fibers[thread].row.count;
    }

    private boolean isNote(int i) {
        return i >= 0 && i < world.chronicle.count;
    }

    /** The tokens of a text, with one of kind TEXT_END behind the last. */
    private static final class Tokens {
        final int[] kinds = new int[MOST_TAPED + 1];
        final int[] values = new int[MOST_TAPED + 1];
        final int[] places = new int[MOST_TAPED + 1];
        private int count;

        void scan(int[] bytes, int length) {
            count = 0;
            int from = 0;
            while (from < length) {
                int to = from + 1;
                int first = bytes[from];
                if (isLetter(first)) {
                    while (to < length && isLetter(bytes[to])) {
                        to++;
                    }
                    addLetters(bytes, from, to);
                } else if (isDigit(first)) {
                    while (to < length && isDigit(bytes[to])) {
                        to++;
                    }
                    addDigits(bytes, from, to);
                } else if (first != ' ' && first != '\n') {
                    addToken(isSign(first) ? first : BAD, 0, from);
                }
                from = to;
            }
            addToken(TEXT_END, 0, length);
        }

        private void addToken(int kind, int value, int at) {
            kinds[count] = kind;
            values[count] = value;
            places[count] = at;
            count++;
        }

        private void addLetters(int[] bytes, int from, int to) {
            int first = bytes[from];
            if (to - from > 1) {
                addToken(wordKind(bytes, from, to), 0, from);
            } else if (first <= 'h') {
                addToken(BOX, first - 'a', from);
            } else if (first >= 'q') {
                addToken(LOCAL, first - 'q', from);
            } else {
                addToken(BAD, 0, from);
            }
        }

        private void addDigits(int[] bytes, int from, int to) {
            if (to - from > MOST_DIGITS) {
                addToken(BAD, 0, from);
                return;
            }
            int number = 0;
            for (int i = from; i < to; i++) {
                number = 10 * number + bytes[i] - '0';
            }
            addToken(NUMBER, number, from);
        }

        private static int wordKind(int[] bytes, int from, int to) {
            if (to - from > WORD_WIDTH) {
                return BAD;
            }
            for (int word = 0; word < WORD_KINDS; word++) {
                if (isSpelled(word * WORD_WIDTH, bytes, from, to)) {
                    return NOTE + word;
                }
            }
            return BAD;
        }

        private static boolean isSpelled(int at, int[] bytes, int from, int to) {
            for (int i = 0; i < WORD_WIDTH; i++) {
                int letter = from + i < to ? bytes[from + i] : ' ';
                if (WORDS.charAt(at + i) != letter) {
                    return false;
                }
            }
            return true;
        }

        private static boolean isLetter(int b) {
            return b >= 'a' && b <= 'z';
        }

        private static boolean isDigit(int b) {
            return b >= '0' && b <= '9';
        }

        private static boolean isSign(int b) {
            for (int i = 0; i < SIGNS.length(); i++) {
                if (SIGNS.charAt(i) == b) {
                    return true;
                }
            }
            return false;
        }
    }

    /**
     * Reads tokens into a PROGRAM. Each of its methods that answers false leaves 'at' on the
     * token that cannot stand there, so that THE FAULT's place is known at the end.
     */
    private static final class Parser {
        private final Tokens tokens = new Tokens();
        private Program program;
        private int at;

        int parse(int[] bytes, int length, Program written) {
            tokens.scan(bytes, length);
            written.reset();
            program = written;
            at = 0;
            boolean fine = statements(WHOLE_PROGRAM, 0, TEXT_END);
            return fine ? NONE : tokens.places[at];
        }

        private boolean statements(int slot, int depth, int closer) {
            program.entries[slot] = BODY_END;
            int previous = BODY_END;
            for (int i = 0; i <= MOST_STATEMENTS && tokens.kinds[at] != closer; i++) {
                int here = program.statementCount;
                if (!statement(depth)) {
                    return false;
                }
                if (previous == BODY_END) {
                    program.entries[slot] = here;
                } else {
                    program.nexts[previous] = here;
                }
                previous = here;
            }
            return true;
        }

        private boolean statement(int depth) {
            int kind = tokens.kinds[at];
            if (program.statementCount >= MOST_STATEMENTS || !beginsStatement(kind)) {
                return false;
            }
            int s = program.addStatement(kind);
            if (kind == LOCAL) {
                return isLocal(s) && is('=') && isExpOf(s) && is(';');
            }
            at++;
            switch (kind) {
                case NOTE:
                case THROW:
                    return isExpOf(s) && is(';');
                case IF:
                    return isCondition(s) && isBody(s, 0, depth) && mayHaveElse(s, depth);
                case WHILE:
                    return isCondition(s) && isBody(s, 0, depth);
                case TAKE:
                    return isNumberOf(s, BOX, BOXES) && is(TO) && isLocal(s) && is(';');
                case PUT:
                    return isExpOf(s) && is(IN) && isNumberOf(s, BOX, BOXES) && is(';');
                case SEND:
                    return isExpOf(s) && is(TO) && isNumberOf(s, NUMBER, THREADS) && is(';');
                case TRY:
                    return isBody(s, 0, depth) && is(CATCH) && isLocal(s) && isBody(s, 1, depth);
                case FIRST:
                    return isBody(s, 0, depth) && is(USE) && isBody(s, USE_PART, depth)
                        && is(LAST) && isBody(s, LAST_PART, depth);
                case WITHIN:
                    return isNumberOf(s, NUMBER, NUMBERS) && isBody(s, 0, depth)
                        && mayHaveElse(s, depth);
                default:
                    return isBody(s, 0, depth);
            }
        }

        private static boolean beginsStatement(int kind) {
            switch (kind) {
                case LOCAL:
                case NOTE:
                case IF:
                case WHILE:
                case TAKE:
                case PUT:
                case THROW:
                case SEND:
                case MASK:
                case HARD:
                case OPEN:
                case TRY:
                case FIRST:
                case WITHIN:
                    return true;
                default:
                    return false;
            }
        }

        private boolean is(int kind) {
            if (tokens.kinds[at] != kind) {
                return false;
            }
            at++;
            return true;
        }

        private boolean isLocal(int s) {
            program.letters[s] = tokens.values[at];
            return is(LOCAL);
        }

        private boolean isNumberOf(int s, int kind, int bound) {
            program.numbers[s] = tokens.values[at];
            return tokens.values[at] < bound && is(kind);
        }

        private boolean isBody(int s, int part, int depth) {
            if (depth >= MOST_BODIES || !is('{')) {
                return false;
            }
            program.deepest = Math.max(program.deepest, depth + 1);
            return statements(PARTS * s + part, depth + 1, '}') && is('}');
        }

        private boolean mayHaveElse(int s, int depth) {
            return !is(ELSE) || isBody(s, 1, depth);
        }

        private boolean isCondition(int s) {
            return is('(') && isExpOf(s) && is(')');
        }

        private boolean isExpOf(int s) {
            program.expFroms[s] = program.codeCount;
            boolean fine = isExp(0);
            program.expTos[s] = program.codeCount;
            return fine;
        }

        private boolean isExp(int within) {
            if (!isSum(within)) {
                return false;
            }
            int sign = tokens.kinds[at];
            if (sign != '<' && sign != '=' && sign != '#') {
                return true;
            }
            at++;
            return isSum(within) && program.addCode(sign, 0);
        }

        private boolean isSum(int within) {
            boolean fine = isProduct(within);
            for (int i = 0; i < MOST_UNARIES && fine; i++) {
                int sign = tokens.kinds[at];
                if (sign != '+' && sign != '-') {
                    return true;
                }
                at++;
                fine = isProduct(within) && program.addCode(sign, 0);
            }
            return fine;
        }

        private boolean isProduct(int within) {
            boolean fine = isUnary(within);
            for (int i = 0; i < MOST_UNARIES && fine; i++) {
                if (!is('*')) {
                    return true;
                }
                fine = isUnary(within) && program.addCode('*', 0);
            }
            return fine;
        }

        private boolean isUnary(int within) {
            int kind = tokens.kinds[at];
            if (program.unaryCount >= MOST_UNARIES) {
                return false;
            }
            if (kind == NUMBER || kind == LOCAL) {
                program.unaryCount++;
                at++;
                return program.addCode(kind, tokens.values[at - 1]);
            }
            if ((kind != '-' && kind != '(') || within >= MOST_WITHIN_ONE_ANOTHER) {
                return false;
            }
            program.unaryCount++;
            at++;
            if (kind == '-') {
                return isUnary(within + 1) && program.addCode(NEGATE, 0);
            }
            return isExp(within + 1) && is(')');
        }
    }

    /**
     * A PROGRAM as rows over its statements. A body is the chain that begins at its entry and
     * goes on by nexts; exps are codes that work on a pile of operands.
     */
    private static final class Program {
        int statementCount;
        int unaryCount;
        int deepest;
        int codeCount;
        final int[] kinds = new int[MOST_STATEMENTS];
        final int[] letters = new int[MOST_STATEMENTS];
        final int[] numbers = new int[MOST_STATEMENTS];
        final int[] expFroms = new int[MOST_STATEMENTS];
        final int[] expTos = new int[MOST_STATEMENTS];
        final int[] nexts = new int[MOST_STATEMENTS];
        final int[] entries = new int[WHOLE_PROGRAM + 1];
        private final int[] codes = new int[MOST_CODES];
        private final int[] codeNumbers = new int[MOST_CODES];
        private final long[] operands = new long[MOST_UNARIES];

        void reset() {
            statementCount = 0;
            unaryCount = 0;
            deepest = 0;
            codeCount = 0;
            entries[WHOLE_PROGRAM] = BODY_END;
        }

        int addStatement(int kind) {
            int s = statementCount;
            kinds[s] = kind;
            nexts[s] = BODY_END;
            for (int part = 0; part < PARTS; part++) {
                entries[PARTS * s + part] = NO_BODY;
            }
            statementCount++;
            return s;
        }

        boolean addCode(int code, int number) {
            if (codeCount >= MOST_CODES) {
                return false;
            }
            codes[codeCount] = code;
            codeNumbers[codeCount] = number;
            codeCount++;
            return true;
        }

        int entryOf(int s, int part) {
            return entries[PARTS * s + part];
        }

        long work(int s, long[] locals) {
            int top = -1;
            for (int i = expFroms[s]; i < expTos[s]; i++) {
                int code = codes[i];
                if (code == NUMBER) {
                    top++;
                    operands[top] = codeNumbers[i];
                } else if (code == LOCAL) {
                    top++;
                    operands[top] = locals[codeNumbers[i]];
                } else if (code == NEGATE) {
                    operands[top] = -operands[top];
                } else {
                    top--;
                    operands[top] = joined(code, operands[top], operands[top + 1]);
                }
            }
            return operands[0];
        }

        private static long joined(int sign, long left, long right) {
            switch (sign) {
                case '+':
                    return left + right;
                case '-':
                    return left - right;
                case '*':
                    return left * right;
                case '<':
                    return left < right ? 1 : 0;
                case '=':
                    return left == right ? 1 : 0;
                default:
                    return left != right ? 1 : 0;
            }
        }
    }

    /** THE CLOCK and the NOTES that tell by it. */
    private static final class Chronicle {
        int now;
        int count;
        final int[] kinds;
        final int[] threads;
        final int[] times;
        final long[] values;

        Chronicle(int most) {
            kinds = new int[most];
            threads = new int[most];
            times = new int[most];
            values = new long[most];
        }

        void tell(int kind, int thread, long value) {
            if (count >= kinds.length) {
                return;
            }
            kinds[count] = kind;
            threads[count] = thread;
            times[count] = now;
            values[count] = value;
            count++;
        }
    }

    /** What is THROWN to a THREAD and not yet in it. A depth above 0 is that of a TIMEOUT's within. */
    private static final class Row {
        int count;
        final int[] senders = new int[MOST_IN_ROW];
        final int[] depths = new int[MOST_IN_ROW];
        final long[] values = new long[MOST_IN_ROW];

        void append(int sender, int depth, long value) {
            if (count >= MOST_IN_ROW) {
                return;
            }
            senders[count] = sender;
            depths[count] = depth;
            values[count] = value;
            count++;
        }

        void removeAt(int i) {
            if (i < 0 || i >= count) {
                return;
            }
            for (int k = i + 1; k < count; k++) {
                senders[k - 1] = senders[k];
                depths[k - 1] = depths[k];
                values[k - 1] = values[k];
            }
            count--;
        }

        int countFrom(int sender) {
            int found = 0;
            for (int i = 0; i < count; i++) {
                if (senders[i] == sender) {
                    found++;
                }
            }
            return found;
        }

        /** Another THREAD has one here at most, as it WAITS in the send of it. */
        int placeFrom(int sender) {
            for (int i = 0; i < count; i++) {
                if (senders[i] == sender) {
                    return i;
                }
            }
            return NONE;
        }

        int placeOfTimeout(int depth) {
            for (int i = 0; i < count; i++) {
                if (depths[i] == depth) {
                    return i;
                }
            }
            return NONE;
        }

        void mirror(Row other) {
            count = other.count;
            for (int i = 0; i < count; i++) {
                senders[i] = other.senders[i];
                depths[i] = other.depths[i];
                values[i] = other.values[i];
            }
        }
    }

    /** A body that a THREAD is in; the outermost one is the PROGRAM itself. */
    private static final class Body {
        int owner;
        int part;
        int strengthBefore;
        /** The statement that is next, or that the body within this one is of. */
        int at;
        int timeout;
        int wentIn;
        boolean holds;
        long held;
        int heldDepth;

        void enter(int statement, int newPart, int strength, int entry) {
            owner = statement;
            strengthBefore = strength;
            enterPart(newPart, entry);
        }

        void enterPart(int newPart, int entry) {
            part = newPart;
            at = entry;
            timeout = NO_TIMEOUT;
            holds = false;
        }

        void mirror(Body other) {
            owner = other.owner;
            part = other.part;
            strengthBefore = other.strengthBefore;
            at = other.at;
            timeout = other.timeout;
            wentIn = other.wentIn;
            holds = other.holds;
            held = other.held;
            heldDepth = other.heldDepth;
        }
    }

    /** A THREAD: where it is in its PROGRAM, and its ways into and out of bodies. */
    private static final class Fiber {
        int number;
        final Row row = new Row();
        final long[] locals = new long[LOCALS];
        final Body[] bodies = new Body[MOST_BODIES + 1];
        private final Chronicle chronicle;
        Program program;
        int state;
        int strength;
        int steps;
        int depth;
        /** How many within bodies it is in whose TIMEOUT has not come. */
        int awaited;
        long diedOf;
        /** To whom the send that it WAITS in has thrown. */
        int sendingTo;
        /** What is being THROWN; a depth above 0 is that of a TIMEOUT's within. */
        long thrown;
        int thrownDepth;

        Fiber(int number, Chronicle chronicle, Program program) {
            this.number = number;
            this.chronicle = chronicle;
            this.program = program;
            this.sendingTo = NONE;
            for (int i = 0; i <= MOST_BODIES; i++) {
                bodies[i] = new Body();
            }
        }

        void reset() {
            state = 0;
            steps = 0;
            diedOf = 0;
            for (int i = 0; i < LOCALS; i++) {
                locals[i] = 0;
            }
            leaveAll();
        }

        private void leaveAll() {
            row.count = 0;
            strength = UNMASKED;
            depth = 0;
            awaited = 0;
            sendingTo = NONE;
        }

        void begin(Program begun) {
            reset();
            program = begun;
            bodies[0].enter(NONE, 0, UNMASKED, program.entries[WHOLE_PROGRAM]);
            state = RUNS;
        }

        int finish() {
            state = DONE;
            leaveAll();
            chronicle.tell(TELLS_DONE, number, 0);
            return ENDED;
        }

        private int perish() {
            state = DIED;
            diedOf = thrown;
            leaveAll();
            chronicle.tell(TELLS_DIED, number, thrown);
            return PERISHED;
        }

        int nextStatement() {
            return bodies[depth].at;
        }

        boolean holdsValue() {
            for (int i = 1; i <= depth; i++) {
                if (bodies[i].holds) {
                    return true;
                }
            }
            return false;
        }

        int goBehind() {
            Body body = bodies[depth];
            if (body.at >= 0) {
                body.at = program.nexts[body.at];
            }
            return STEPPED;
        }

        /** Into a body of the next statement, or behind that one if it has no such body. */
        int goIn(int part, int newStrength) {
            int s = nextStatement();
            if (s < 0 || depth >= MOST_BODIES || program.entryOf(s, part) == NO_BODY) {
                return goBehind();
            }
            depth++;
            Body body = bodies[depth];
            body.enter(s, part, strength, program.entryOf(s, part));
            strength = newStrength;
            if (program.kinds[s] == WITHIN && part == 0) {
                body.timeout = AWAITED;
                body.wentIn = chronicle.now;
                awaited++;
            }
            return STEPPED;
        }

        /** From one body of a statement to another one of it. */
        private void goOver(Body body, int part, int newStrength) {
            body.enterPart(part, program.entryOf(body.owner, part));
            strength = newStrength;
        }

        private void leave() {
            Body body = bodies[depth];
            forgetTimeout(body);
            strength = body.strengthBefore;
            depth--;
        }

        private void forgetTimeout(Body body) {
            if (body.timeout == AWAITED) {
                awaited--;
            } else if (body.timeout == CAME) {
                row.removeAt(row.placeOfTimeout(depth));
            }
            body.timeout = NO_TIMEOUT;
        }

        void bringTimeouts() {
            for (int i = 1; i <= depth && awaited > 0; i++) {
                Body body = bodies[i];
                if (body.timeout == AWAITED && chronicle.now - body.wentIn >= program.numbers[body.owner]) {
                    body.timeout = CAME;
                    awaited--;
                    row.append(FROM_TIMEOUT, i, 0);
                }
            }
        }

        /** Out of bodies that are at their ends: whether a value held behind a last is to be THROWN on. */
        boolean settle() {
            for (int i = 0; i < PARTS * MOST_BODIES && depth > 0 && nextStatement() == BODY_END; i++) {
                Body body = bodies[depth];
                int kind = program.kinds[body.owner];
                if (kind == FIRST && body.part < USE_PART) {
                    goOver(body, USE_PART, body.strengthBefore);
                    chronicle.tell(TELLS_USE, number, 0);
                } else if (kind == FIRST && body.part < LAST_PART) {
                    goToLast(body);
                } else if (body.holds) {
                    thrown = body.held;
                    thrownDepth = body.heldDepth;
                    leave();
                    return true;
                } else {
                    leave();
                    if (kind != WHILE) {
                        goBehind();
                    }
                }
            }
            return false;
        }

        private void goToLast(Body body) {
            goOver(body, LAST_PART, Math.max(body.strengthBefore, MASKED));
            chronicle.tell(TELLS_LAST, number, 0);
        }

        /** What is thrown goes outward till a body stops it. */
        int unwind() {
            for (int i = depth; i > 0; i--) {
                if (stops(bodies[i])) {
                    return THREW;
                }
                leave();
            }
            return perish();
        }

        private boolean stops(Body body) {
            int kind = program.kinds[body.owner];
            if (kind == TRY && body.part == 0 && thrownDepth == 0) {
                locals[program.letters[body.owner]] = thrown;
                goOver(body, 1, Math.max(body.strengthBefore, MASKED));
                return true;
            }
            if (kind == FIRST && body.part == USE_PART) {
                goToLast(body);
                body.holds = true;
                body.held = thrown;
                body.heldDepth = thrownDepth;
                return true;
            }
            if (kind == WITHIN && body.part == 0 && thrownDepth == depth) {
                leave();
                goIn(1, strength);
                return true;
            }
            return false;
        }

        void mirror(Fiber other) {
            number = other.number;
            program = other.program;
            state = other.state;
            strength = other.strength;
            depth = other.depth;
            awaited = other.awaited;
            sendingTo = other.sendingTo;
            row.mirror(other.row);
            for (int i = 0; i <= depth; i++) {
                bodies[i].mirror(other.bodies[i]);
            }
        }
    }

    /** The THREADS with all that lies between them. */
    private static final class World {
        final Chronicle chronicle;
        final Fiber[] fibers;
        final boolean[] boxFull = new boolean[BOXES];
        final long[] boxNumber = new long[BOXES];
        /** For looking at what a THREAD would do; what it tells is lost. */
        private final Fiber shadow;

        World() {
            Chronicle told = new Chronicle(MOST_NOTES);
            Program empty = new Program();
            Fiber[] made = new Fiber[THREADS];
            for (int i = 0; i < THREADS; i++) {
                made[i] = new Fiber(i, told, empty);
            }
            chronicle = told;
            fibers = made;
            shadow = new Fiber(NONE, new Chronicle(0), empty);
        }

        void reset() {
            chronicle.now = 0;
            chronicle.count = 0;
            for (int i = 0; i < THREADS; i++) {
                fibers[i].reset();
            }
            for (int i = 0; i < BOXES; i++) {
                boxFull[i] = false;
            }
        }

        int takeTurn(Fiber fiber) {
            chronicle.now++;
            for (int i = 0; i < THREADS; i++) {
                fibers[i].bringTimeouts();
            }
            int outcome = step(fiber);
            if (outcome == THROWS) {
                outcome = fiber.unwind();
            }
            if (outcome != WAITS) {
                fiber.steps++;
            }
            return outcome;
        }

        private int step(Fiber fiber) {
            if (fiber.settle()) {
                return THROWS;
            }
            if (fiber.strength == UNMASKED && fiber.row.count > 0) {
                return takeFromRow(fiber);
            }
            if (fiber.nextStatement() == BODY_END) {
                return fiber.finish();
            }
            int outcome = perform(fiber, fiber.nextStatement());
            if (outcome == WAITS && fiber.strength == MASKED && fiber.row.count > 0) {
                return takeFromRow(fiber);
            }
            return outcome;
        }

        private int takeFromRow(Fiber fiber) {
            breakSend(fiber);
            Row row = fiber.row;
            fiber.thrown = row.values[0];
            fiber.thrownDepth = row.depths[0];
            row.removeAt(0);
            chronicle.tell(TELLS_TAKEN, fiber.number, fiber.thrown);
            return THROWS;
        }

        private void breakSend(Fiber fiber) {
            if (fiber.sendingTo != NONE) {
                Row row = fibers[fiber.sendingTo].row;
                row.removeAt(row.placeFrom(fiber.number));
                fiber.sendingTo = NONE;
            }
        }

        private int perform(Fiber fiber, int s) {
            Program program = fiber.program;
            switch (program.kinds[s]) {
                case LOCAL:
                    fiber.locals[program.letters[s]] = program.work(s, fiber.locals);
                    return fiber.goBehind();
                case NOTE:
                    chronicle.tell(TELLS_VALUE, fiber.number, program.work(s, fiber.locals));
                    return fiber.goBehind();
                case IF:
                    return fiber.goIn(program.work(s, fiber.locals) != 0 ? 0 : 1, fiber.strength);
                case WHILE:
                    return program.work(s, fiber.locals) != 0 ? fiber.goIn(0, fiber.strength) : fiber.goBehind();
                case TAKE:
                    return takeFromBox(fiber, s);
                case PUT:
                    return putInBox(fiber, s);
                case THROW:
                    return throwValue(fiber, s);
                case SEND:
                    return sendValue(fiber, s);
                case MASK:
                case FIRST:
                    return fiber.goIn(0, Math.max(fiber.strength, MASKED));
                case HARD:
                    return fiber.goIn(0, HARDENED);
                case OPEN:
                    return fiber.goIn(0, UNMASKED);
                default:
                    return fiber.goIn(0, fiber.strength);
            }
        }

        private int takeFromBox(Fiber fiber, int s) {
            if (waits(fiber, s)) {
                return WAITS;
            }
            int n = fiber.program.numbers[s];
            boxFull[n] = false;
            fiber.locals[fiber.program.letters[s]] = boxNumber[n];
            return fiber.goBehind();
        }

        private int putInBox(Fiber fiber, int s) {
            if (waits(fiber, s)) {
                return WAITS;
            }
            int n = fiber.program.numbers[s];
            boxFull[n] = true;
            boxNumber[n] = fiber.program.work(s, fiber.locals);
            return fiber.goBehind();
        }

        private static int throwValue(Fiber fiber, int s) {
            fiber.thrown = fiber.program.work(s, fiber.locals);
            fiber.thrownDepth = 0;
            return THROWS;
        }

        private int sendValue(Fiber fiber, int s) {
            int target = fiber.program.numbers[s];
            if (target == fiber.number) {
                return throwValue(fiber, s);
            }
            if (!waits(fiber, s)) {
                fiber.sendingTo = NONE;
                return fiber.goBehind();
            }
            if (fiber.sendingTo == NONE) {
                fiber.sendingTo = target;
                fibers[target].row.append(fiber.number, 0, fiber.program.work(s, fiber.locals));
            }
            return WAITS;
        }

        /** Whether a TURN of this statement WAITS. A send does so from its first TURN on. */
        private boolean waits(Fiber fiber, int s) {
            int n = fiber.program.numbers[s];
            switch (fiber.program.kinds[s]) {
                case TAKE:
                    return !boxFull[n];
                case PUT:
                    return boxFull[n];
                case SEND:
                    return fiber.sendingTo != NONE
                        ? fibers[n].row.placeFrom(fiber.number) != NONE
                        : n != fiber.number && fibers[n].state == RUNS;
                default:
                    return false;
            }
        }

        boolean anyWouldStep() {
            for (int i = 0; i < THREADS; i++) {
                if (fibers[i].state == RUNS && wouldStep(fibers[i])) {
                    return true;
                }
            }
            return false;
        }

        private boolean wouldStep(Fiber fiber) {
            shadow.mirror(fiber);
            if (shadow.settle()) {
                return true;
            }
            boolean thrownTo = shadow.row.count > 0;
            int s = shadow.nextStatement();
            if (s == BODY_END || (thrownTo && shadow.strength == UNMASKED)) {
                return true;
            }
            return !waits(shadow, s) || (thrownTo && shadow.strength == MASKED);
        }
    }
}
