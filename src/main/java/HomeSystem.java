import java.util.ArrayList;
import java.util.Arrays;

/** A system for programs: texts of a small language and rows of machine words, run as processes. */
public final class HomeSystem {
    public static final int NONE = -1;
    public static final int DONE = 0, ENDED = 1, OUT = 2, ZERO = 3, DEEP = 4, WORN = 5, WAITS = 6, FAULT = 7;

    private static final int TAPE = 2048;
    private static final int PROGRAMS = 8;
    private static final int PROCESSES = 13;
    private static final int PAPER = 256;
    private static final int ROW_LENGTH = 4;
    private static final int DISK = 128;
    private static final int BLOCK = 16;
    private static final int BLOCKS = 8;
    private static final int WHOLE_LIFE = 6000;
    private static final int BOOT_COST = 30;
    private static final int MOST_WORK = 100;
    private static final int MOST_STACK = 512;
    private static final int SHORTEST_TURN = 200;
    private static final int LONGEST_TURN = 100000;
    /** Far above what any loop that counts against it can need. */
    private static final int MILLION = 1000000;

    /** Limits of the language. */
    private static final int LONGEST_NAME = 24;
    private static final int LONGEST_STRING = 200;
    private static final int MOST_OPEN = 60;
    private static final int LARGEST_ROW = 4096;
    private static final int MOST_WORDS = 8192;
    private static final int MOST_FUNCTIONS = 200;
    private static final int FRAME_HEAD = 4;

    /** The names that every text begins with: the keywords, the functions that are there already, main. */
    private static final String SEEDS =
            "int char void enum if else while do for switch case default break continue return len put send recv more spawn wait get set end main ";
    private static final int KEYWORDS = 15;
    private static final int GIVEN_FUNCTIONS = 10;
    private static final int MAIN_NAME = KEYWORDS + GIVEN_FUNCTIONS;
    private static final int SEEDED = MAIN_NAME + 1;

    /** Kinds of tokens; a keyword's is its place among the seeds + 1, a mark of one byte is that byte. */
    private static final int END = 0;
    private static final int INT = 1, CHAR = 2, VOID = 3, ENUM = 4, IF = 5, ELSE = 6, WHILE = 7, DO = 8, FOR = 9;
    private static final int SWITCH = 10, CASE = 11, DEFAULT = 12, BREAK = 13, CONTINUE = 14, RETURN = 15;
    private static final int NAME = 16, NUMBER = 17, STRING = 18, BAD = 19;
    private static final int EQ = 130, NE = 131, LE = 132, GE = 133, SHL = 134, SHR = 135;
    private static final int BOTH = 136, EITHER = 137, INC = 138, DEC = 139;
    /** The mark = alone; with an operator's kind added, that operator and = behind it. */
    private static final int ASSIGN = 256;
    private static final String MARKS = "(){}[],;:?=|^&<>+-*/%!~";

    /** How loosely an expression may bind: e, then c; above them stand the ranks of operators. */
    private static final int WHOLE = -1;
    private static final int CONDITION = 0;

    /** What a function wants in a place: INT, CHAR, or a row (with INT or CHAR, or of either). */
    private static final int ROWS = 16;
    private static final int ANYTHING = 0;
    private static final int[] GIVEN_TYPES = {INT, VOID, VOID, INT, INT, INT, INT, VOID, VOID, VOID};
    private static final int[] GIVEN_COUNTS = {1, 1, 2, 1, 1, 2, 1, 2, 2, 1};
    private static final int[] GIVEN_WANTS = {
        ROWS, INT, INT, INT, INT, INT, INT, INT, INT, INT, ROWS + INT, INT, ROWS + INT, INT};

    /** Sorts of symbols. */
    private static final int ENUMERATED = 0, VARIABLE = 1, FUNCTION = 2;
    /** The mode of a variable, in symbols and instructions. */
    private static final int LOCAL = 1, CHARS = 2, ROW = 4, HANDED = 8;

    /** Sorts of operands; a PLACE (a variable or an element) is not read yet. */
    private static final int VALUE = 0, PLACE = 1, WHOLE_ROW = 2, NOTHING = 3, WRONG = 4;
    /** What is known of an operand as a number: all, nothing as a name is wrong, that it divides by 0, that it varies. */
    private static final int KNOWN = 0, UNKNOWN = 1, DIVIDES = 2, VARIES = 3;

    /** The instructions that texts become, four words each; what stands above bit 7 of the first is an extra. */
    private static final int WIDTH = 4;
    private static final int PUSH = 1, LOAD = 2, STORE = 3, UPDATE = 4, STEP = 5, DROP = 6, BINARY = 7, UNARY = 8;
    private static final int TRUTH = 9, TRIM = 10, HAND_ROW = 11, LENGTH = 12, CLEAR = 13, SET = 14;
    private static final int JUMP = 15, JUMP_ZERO = 16, JUMP_TRUE = 17, SKIP_FALSE = 18, SKIP_TRUE = 19, PICK = 20;
    private static final int TURN = 21, CALL = 22, SYSTEM = 23, GIVE = 24, FINISH = 25;
    private static final int EXTRA = 8;
    private static final int STEP_DOWN = 1, STEP_BEHIND = 2;
    private static final int NOWHERE = -1;
    private static final int FUNCTION_WORDS = 3;
    /** No byte of a text becomes more than two instructions, and no byte sets more than one word of the text. */
    private static final int MOST_CODE = 2 * WIDTH * TAPE;
    private static final int MOST_SETUP = WIDTH * TAPE + 2 * WIDTH;
    /** A function has nine bytes at least. */
    private static final int MOST_HEADERS = TAPE / 9 + 1;

    /** Calls of a process, as register 11 (hexadecimal) numbers them. */
    private static final int GAVE = 0, PUT = 1, SEND = 2, RECV = 3, MORE = 4, SPAWN = 5, WAIT = 6;
    private static final int GET_BLOCK = 7, SET_BLOCK = 8, END_CALL = 9, FIRST_FATE = 0x10, LAST_FATE = 0x13;
    /** The outcome of a process that has none yet. */
    private static final int RUNNING = -2;

    /** The addresses of raw programs. */
    private static final int CODE_FROM = 0x400000, CODE_TO = 0x401000;
    private static final int DATA_FROM = 0x500000, DATA_TO = 0x504000;
    private static final int HIGH_FROM = 0x7e0000, HIGH_TO = 0x800000;
    private static final int DATA_CELLS = (DATA_TO - DATA_FROM) / 4;
    private static final int CELLS = DATA_CELLS + (HIGH_TO - HIGH_FROM) / 4;
    private static final int PAGE_BITS = 10;
    private static final int REGISTERS = 32;
    private static final int REGISTER_STACK = 2, REGISTER_A = 0xa, REGISTER_B = 0xb, REGISTER_C = 0xc, REGISTER_CALL = 0x11;
    private static final int RAW_WORK = 16;
    private static final long UNSIGNED = 0xffffffffL;

    private final byte[] tape;
    private final TextCompiler compiler;
    private final Kernel kernel;
    private int fed;
    private int told;
    private int lifeLeft;

    public HomeSystem() {
        tape = new byte[TAPE];
        Tokens tokens = new Tokens();
        Names names = new Names();
        Program program = new Program(new int[MOST_CODE], new int[FUNCTION_WORDS * MOST_HEADERS], false);
        Expressions expressions = new Expressions(tokens, names, program);
        compiler = new TextCompiler(tokens, names, program, expressions);
        kernel = new Kernel();
        lifeLeft = WHOLE_LIFE;
    }

    public void feed(int a, int b, int c, int d, int e) throws IllegalStateException {
        if (fed + 20 > TAPE) {
            throw new IllegalStateException();
        }
        append(a);
        append(b);
        append(c);
        append(d);
        append(e);
    }

    private void append(int word) {
        for (int shift = 24; shift >= 0 && fed < TAPE; shift -= 8) {
            tape[fed] = (byte) (word >>> shift);
            fed++;
        }
    }

    public void end(int n) throws IllegalArgumentException {
        if (n < 0 || n > fed) {
            throw new IllegalArgumentException();
        }
        fed = n;
    }

    public int text(int i) throws IndexOutOfBoundsException {
        if (i < 0 || i >= PROGRAMS) {
            throw new IndexOutOfBoundsException();
        }
        int found = compiler.compile(tape, fed);
        told = compiler.tellPlace();
        kernel.programs[i] = found == 0 ? compiler.finished() : null;
        fed = 0;
        return found;
    }

    public int place() {
        return told;
    }

    public int raw(int i) throws IndexOutOfBoundsException {
        if (i < 0 || i >= PROGRAMS) {
            throw new IndexOutOfBoundsException();
        }
        int count = fed / 4;
        fed = 0;
        if (count == 0) {
            kernel.programs[i] = null;
            return NONE;
        }
        int[] words = new int[count];
        for (int w = 0; w < count; w++) {
            int at = 4 * w;
            words[w] = tape[at] & 255 | (tape[at + 1] & 255) << 8 | (tape[at + 2] & 255) << 16 | tape[at + 3] << 24;
        }
        kernel.programs[i] = new Program(words, null, true);
        return count;
    }

    /** Nothing is kept of n: the length of a turn changes no answer. */
    public void turn(int n) throws IllegalArgumentException {
        if (n < SHORTEST_TURN || n > LONGEST_TURN) {
            throw new IllegalArgumentException();
        }
    }

    public int run(int i, int x, int work, int stack)
            throws IndexOutOfBoundsException, IllegalArgumentException, ArithmeticException {
        if (i < 0 || i >= PROGRAMS) {
            throw new IndexOutOfBoundsException();
        }
        if (work < 0 || work > MOST_WORK || stack < 0 || stack > MOST_STACK) {
            throw new IllegalArgumentException();
        }
        if (lifeLeft < work + BOOT_COST) {
            throw new ArithmeticException();
        }
        if (kernel.programs[i] == null) {
            return NONE;
        }
        lifeLeft -= work + BOOT_COST;
        return kernel.boot(i, x, work, stack);
    }

    public int outcome(int p) throws IndexOutOfBoundsException {
        if (p < 0 || p >= PROCESSES) {
            throw new IndexOutOfBoundsException();
        }
        AnyProcess process = kernel.processes[p];
        return process == null ? NONE : process.outcome;
    }

    public int value(int p) throws IndexOutOfBoundsException {
        if (p < 0 || p >= PROCESSES) {
            throw new IndexOutOfBoundsException();
        }
        AnyProcess process = kernel.processes[p];
        return process == null ? 0 : process.given;
    }

    public int paper(int p) throws IndexOutOfBoundsException {
        if (p < 0 || p >= PROCESSES) {
            throw new IndexOutOfBoundsException();
        }
        AnyProcess process = kernel.processes[p];
        return process == null ? 0 : process.written;
    }

    public int paperAt(int p, int i) throws IndexOutOfBoundsException {
        if (p < 0 || p >= PROCESSES) {
            throw new IndexOutOfBoundsException();
        }
        AnyProcess process = kernel.processes[p];
        if (process == null || i < 0 || i >= process.written || i >= PAPER) {
            throw new IndexOutOfBoundsException();
        }
        return process.numbers[i];
    }

    public int unread(int p, boolean up) throws IndexOutOfBoundsException {
        if (p < 1 || p >= PROCESSES) {
            throw new IndexOutOfBoundsException();
        }
        return kernel.left(p, up);
    }

    public int disk(int i) throws IndexOutOfBoundsException {
        if (i < 0 || i >= DISK) {
            throw new IndexOutOfBoundsException();
        }
        return kernel.blocks[i];
    }

    public void setDisk(int i, int v) throws IndexOutOfBoundsException {
        if (i < 0 || i >= DISK) {
            throw new IndexOutOfBoundsException();
        }
        kernel.blocks[i] = v;
    }

    public int pages() {
        return 0;
    }

    public int wrong() {
        return 0;
    }

    public int life() {
        return lifeLeft;
    }

    /** An operator between two numbers; by 0 it answers 0, as whoever asks has looked at that before. */
    private static int reckon(int operator, int a, int b) {
        switch (operator) {
            case '+': return a + b;
            case '-': return a - b;
            case '*': return a * b;
            case '/': return b == 0 ? 0 : a / b;
            case '%': return b == 0 ? 0 : a % b;
            case '&': return a & b;
            case '|': return a | b;
            case '^': return a ^ b;
            case SHL: return a << (b & 31);
            case SHR: return a >> (b & 31);
            case '<': return a < b ? 1 : 0;
            case '>': return a > b ? 1 : 0;
            case LE: return a <= b ? 1 : 0;
            case GE: return a >= b ? 1 : 0;
            case EQ: return a == b ? 1 : 0;
            default: return a != b ? 1 : 0;
        }
    }

    private static int reckonUnary(int operator, int a) {
        switch (operator) {
            case '-': return -a;
            case '!': return a == 0 ? 1 : 0;
            default: return ~a;
        }
    }

    private static boolean byZero(int operator, int b) {
        return (operator == '/' || operator == '%') && b == 0;
    }

    /** The tokens of a text, a cursor over them, and the first that can't stand or that is wrong. */
    private static final class Tokens {
        private final int[] kinds = new int[TAPE + 1];
        private final int[] places = new int[TAPE + 1];
        private final int[] values = new int[TAPE + 1];
        private final char[] letters = new char[SEEDS.length() + TAPE];
        private final int[] nameEnds = new int[SEEDED + TAPE];
        /** Each string's length and its characters behind that. */
        private final int[] quoted = new int[TAPE];
        private byte[] bytes;
        private int length;
        private int at;
        private int found;
        private int count;
        private int names;
        private int quotes;
        int now;
        int open;
        boolean failed;
        private int failedAt;
        private int wrongToken;
        int wrongNumber;

        Tokens() {
            int used = 0;
            int name = 0;
            for (int i = 0; i < SEEDS.length(); i++) {
                char c = SEEDS.charAt(i);
                if (c == ' ') {
                    nameEnds[name] = used;
                    name++;
                } else {
                    letters[used] = c;
                    used++;
                }
            }
        }

        void scan(byte[] tape, int size) {
            bytes = tape;
            length = size;
            at = 0;
            count = 0;
            names = SEEDED;
            quotes = 0;
            failed = false;
            boolean going = true;
            for (int i = 0; i <= length && going; i++) {
                skip();
                going = token();
            }
        }

        private int byteAt(int i) {
            return bytes != null && i >= 0 && i < length && i < bytes.length ? bytes[i] & 255 : -1;
        }

        /** Goes behind blanks and comments; a comment without an end stays, as a token that can't stand. */
        private void skip() {
            boolean going = true;
            for (int i = 0; i <= length && going; i++) {
                int c = byteAt(at);
                int behind = at;
                if (c == 32 || c == 9 || c == 10 || c == 13) {
                    behind = at + 1;
                } else if (c == '/' && byteAt(at + 1) == '/') {
                    behind = lineEnd();
                } else if (c == '/' && byteAt(at + 1) == '*') {
                    behind = commentEnd();
                }
                going = behind > at;
                at = behind;
            }
        }

        private int lineEnd() {
            for (int i = at; i < length; i++) {
                if (byteAt(i) == 10) {
                    return i;
                }
            }
            return length;
        }

        private int commentEnd() {
            for (int i = at + 2; i < length - 1; i++) {
                if (byteAt(i) == '*' && byteAt(i + 1) == '/') {
                    return i + 2;
                }
            }
            return at;
        }

        /** Finds the next token; answers whether another may follow. */
        private boolean token() {
            int start = at;
            int c = byteAt(at);
            int kind = END;
            found = 0;
            if (isLetter(c)) {
                kind = name();
            } else if (isDigit(c)) {
                kind = number();
            } else if (c == '\'') {
                kind = character();
            } else if (c == '"') {
                kind = string();
            } else if (c >= 0) {
                kind = mark(c);
            }
            if (count < kinds.length) {
                kinds[count] = kind;
                places[count] = start;
                values[count] = found;
                count++;
            }
            return kind != END && kind != BAD;
        }

        private static boolean isLetter(int c) {
            return c >= 'a' && c <= 'z' || c >= 'A' && c <= 'Z' || c == '_';
        }

        private static boolean isDigit(int c) {
            return c >= '0' && c <= '9';
        }

        private int name() {
            int from = nameEnds[names - 1];
            int size = 0;
            for (int c = byteAt(at); at < length && (isLetter(c) || isDigit(c)); c = byteAt(at)) {
                if (from + size < letters.length) {
                    letters[from + size] = (char) c;
                }
                size++;
                at++;
            }
            if (size > LONGEST_NAME) {
                return BAD;
            }
            found = intern(from, size);
            return found < KEYWORDS ? found + 1 : NAME;
        }

        /** The number of the name whose letters stand behind those of all names; a new one is kept. */
        private int intern(int from, int size) {
            int start = 0;
            for (int i = 0; i < names; i++) {
                if (nameEnds[i] - start == size && sameLetters(start, from, size)) {
                    return i;
                }
                start = nameEnds[i];
            }
            if (names < nameEnds.length) {
                nameEnds[names] = from + size;
                names++;
            }
            return names - 1;
        }

        private boolean sameLetters(int a, int b, int size) {
            for (int i = 0; i < size; i++) {
                if (a + i >= letters.length || b + i >= letters.length || letters[a + i] != letters[b + i]) {
                    return false;
                }
            }
            return true;
        }

        private int number() {
            boolean hexadecimal = byteAt(at) == '0' && byteAt(at + 1) == 'x';
            int base = hexadecimal ? 16 : 10;
            int most = hexadecimal ? 8 : 10;
            int digits = 0;
            long sum = 0;
            at += hexadecimal ? 2 : 0;
            for (int d = digit(base); at < length && d >= 0; d = digit(base)) {
                sum = digits < most ? sum * base + d : sum;
                digits++;
                at++;
            }
            if (digits == 0 || digits > most || sum > UNSIGNED) {
                return BAD;
            }
            found = (int) sum;
            return NUMBER;
        }

        private int digit(int base) {
            int c = byteAt(at);
            if (isDigit(c)) {
                return c - '0';
            }
            if (base == 16 && c >= 'a' && c <= 'f') {
                return c - 'a' + 10;
            }
            return base == 16 && c >= 'A' && c <= 'F' ? c - 'A' + 10 : -1;
        }

        /** The character within quotes that begins at i, or -1. */
        private int quotedAt(int i, int quote) {
            int c = byteAt(i);
            if (c == '\\') {
                int escaped = byteAt(i + 1);
                if (escaped == 'n') {
                    return 10;
                }
                if (escaped == '0') {
                    return 0;
                }
                return escaped == quote || escaped == '\\' ? escaped : -1;
            }
            return c >= 32 && c <= 126 && c != quote ? c : -1;
        }

        private int quotedWidth(int i) {
            return byteAt(i) == '\\' ? 2 : 1;
        }

        private int character() {
            int c = quotedAt(at + 1, '\'');
            int behind = at + 1 + quotedWidth(at + 1);
            if (c < 0 || byteAt(behind) != '\'') {
                return BAD;
            }
            found = c;
            at = behind + 1;
            return NUMBER;
        }

        private int string() {
            int i = at + 1;
            int size = 0;
            for (int c = quotedAt(i, '"'); c >= 0 && size <= LONGEST_STRING; c = quotedAt(i, '"')) {
                if (quotes + 1 + size < quoted.length) {
                    quoted[quotes + 1 + size] = c;
                }
                size++;
                i += quotedWidth(i);
            }
            if (size > LONGEST_STRING || byteAt(i) != '"' || quotes + size >= quoted.length) {
                return BAD;
            }
            found = quotes;
            quoted[quotes] = size;
            quotes += size + 1;
            at = i + 1;
            return STRING;
        }

        private int mark(int c) {
            int kind = c == '=' ? ASSIGN : c;
            int size = 1;
            if (MARKS.indexOf((char) c) < 0 || c == '/' && byteAt(at + 1) == '*') {
                return BAD;
            }
            int doubled = byteAt(at + 1) == c ? doubled(c) : 0;
            if (doubled > 0) {
                kind = doubled;
                size = 2;
            }
            int wider = byteAt(at + size) == '=' ? withEquals(kind) : 0;
            if (wider > 0) {
                kind = wider;
                size++;
            }
            at += size;
            return kind;
        }

        private static int doubled(int c) {
            switch (c) {
                case '+': return INC;
                case '-': return DEC;
                case '&': return BOTH;
                case '|': return EITHER;
                case '<': return SHL;
                case '>': return SHR;
                default: return 0;
            }
        }

        private static int withEquals(int kind) {
            switch (kind) {
                case ASSIGN: return EQ;
                case '!': return NE;
                case '<': return LE;
                case '>': return GE;
                case '+': case '-': case '*': case '/': case '%': case '&': case '|': case '^': case SHL: case SHR:
                    return ASSIGN + kind;
                default: return 0;
            }
        }

        void rewind() {
            now = 0;
            open = 0;
            wrongToken = count;
            wrongNumber = 0;
        }

        /** Once a token can't stand all are BAD, so that nothing is read any further. */
        int kind() {
            return failed || now >= count ? BAD : kinds[now];
        }

        int kindBehind() {
            return now + 1 < count ? kinds[now + 1] : BAD;
        }

        /** A name's number, a number, or where a string is kept. */
        int meaning() {
            return now < count ? values[now] : 0;
        }

        int quotedNumber(int i) {
            return i >= 0 && i < quoted.length ? quoted[i] : 0;
        }

        int last() {
            return count - 1;
        }

        void step() {
            if (now < count - 1) {
                now++;
            }
        }

        boolean accept(int kind) {
            boolean here = kind() == kind;
            if (here) {
                step();
            }
            return here;
        }

        void expect(int kind) {
            if (kind() == kind) {
                step();
            } else {
                fail();
            }
        }

        void fail() {
            if (!failed) {
                failed = true;
                failedAt = now < count ? places[now] : length;
            }
        }

        /** Takes a token behind which something is open; the 61st can't stand. */
        void open(int kind) {
            if (kind() == kind && open < MOST_OPEN) {
                open++;
                step();
            } else {
                fail();
            }
        }

        /** Takes an operator behind an expression of some depth, or fails as the two are too much. */
        void openBehind(int depth) {
            if (open + depth < MOST_OPEN && !failed) {
                open++;
                step();
            } else {
                fail();
            }
        }

        /** Likewise ++ or --, which leaves nothing open. */
        void stepBehind(int depth) {
            if (open + depth < MOST_OPEN) {
                step();
            } else {
                fail();
            }
        }

        void close(int kind) {
            if (kind() == kind) {
                step();
            } else {
                fail();
            }
            open--;
        }

        void shut() {
            open--;
        }

        /** Of what is wrong the first by its token is kept, at one token the least; at first that is behind all tokens. */
        void blame(int number, int token) {
            if (token < wrongToken || token == wrongToken && number < wrongNumber) {
                wrongToken = token;
                wrongNumber = number;
            }
        }

        int tellPlace() {
            if (failed) {
                return failedAt + 1;
            }
            return wrongNumber > 0 && wrongToken < count ? places[wrongToken] + 1 : 0;
        }
    }

    /** What a name stands for. */
    private static final class Symbol {
        final int name;
        final int sort;
        int mode;
        /** Where a variable stands, or where the wants of a function do. */
        int base;
        /** How many elements a row has, or parameters a function. */
        int size;
        /** The number of enum, or which function it is. */
        int number;
        int type;

        Symbol(int name, int sort) {
            this.name = name;
            this.sort = sort;
        }
    }

    /** The names that are known, the innermost last, and the functions. */
    private static final class Names {
        private final ArrayList<Symbol> symbols = new ArrayList<Symbol>();
        private final ArrayList<Symbol> functions = new ArrayList<Symbol>();
        private final int[] wants = new int[TAPE];
        private int wanted;
        private int scope;

        Names() {
            for (int i = 0; i < GIVEN_WANTS.length; i++) {
                wants[i] = GIVEN_WANTS[i];
            }
            int base = 0;
            for (int i = 0; i < GIVEN_FUNCTIONS; i++) {
                Symbol function = new Symbol(KEYWORDS + i, FUNCTION);
                function.number = i;
                function.type = GIVEN_TYPES[i];
                function.base = base;
                function.size = GIVEN_COUNTS[i];
                base += GIVEN_COUNTS[i];
                functions.add(function);
            }
        }

        /** Only the functions that are there already stay. */
        void forget() {
            wanted = GIVEN_WANTS.length;
            for (int i = functions.size() - 1; i >= GIVEN_FUNCTIONS; i--) {
                functions.remove(i);
            }
        }

        void clear() {
            symbols.clear();
            scope = 0;
        }

        int enter() {
            int outer = scope;
            scope = symbols.size();
            return outer;
        }

        void leave(int outer) {
            for (int i = symbols.size() - 1; i >= scope && i >= 0; i--) {
                symbols.remove(i);
            }
            scope = outer;
        }

        Symbol find(int name) {
            for (int i = symbols.size() - 1; i >= 0; i--) {
                Symbol symbol = symbols.get(i);
                if (symbol.name == name) {
                    return symbol;
                }
            }
            return null;
        }

        Symbol function(int name) {
            for (int i = 0; i < functions.size(); i++) {
                Symbol function = functions.get(i);
                if (function.name == name) {
                    return function;
                }
            }
            return null;
        }

        boolean isKnownHere(int name) {
            for (int i = symbols.size() - 1; i >= scope && i >= 0; i--) {
                if (symbols.get(i).name == name) {
                    return true;
                }
            }
            return false;
        }

        void add(Symbol symbol) {
            symbols.add(symbol);
        }

        Symbol addFunction(int name, int type) {
            Symbol function = new Symbol(name, FUNCTION);
            function.number = functions.size();
            function.type = type;
            function.base = wanted;
            functions.add(function);
            return function;
        }

        Symbol functionAt(int i) {
            return i >= 0 && i < functions.size() ? functions.get(i) : null;
        }

        /** The function that was added last wants one more. */
        void addWant(Symbol function, int want) {
            if (wanted < wants.length) {
                wants[wanted] = want;
                wanted++;
                function.size++;
            }
        }

        int want(Symbol function, int i) {
            if (function == null || i < 0 || i >= function.size) {
                return ANYTHING;
            }
            int at = function.base + i;
            return at >= 0 && at < wants.length ? wants[at] : ANYTHING;
        }
    }

    /** A program: the words of a raw one, or what a text becomes. */
    private static final class Program {
        final boolean isRaw;
        final int[] code;
        /** For each function where it begins, its frame, and how many words its arguments have. */
        final int[] functions;
        /** How much of the code there is already, while it grows. */
        int size;
        /** Where a process begins. */
        int start;
        int globals;

        Program(int[] code, int[] functions, boolean isRaw) {
            this.code = code;
            this.functions = functions;
            this.isRaw = isRaw;
        }

        int emit(int op, int a, int b, int c) {
            int at = size;
            if (at >= 0 && at + WIDTH <= code.length) {
                code[at] = op;
                code[at + 1] = a;
                code[at + 2] = b;
                code[at + 3] = c;
                size = at + WIDTH;
            }
            return at;
        }

        /** Jumps that wait for their target make a chain, each holding the one before it. */
        void aim(int chain, int target) {
            int at = chain;
            for (int i = 0; i < TAPE && at >= 0 && at + 1 < code.length; i++) {
                int before = code[at + 1];
                code[at + 1] = target;
                at = before;
            }
        }

        void define(int function, int entry, int frame, int words) {
            int at = FUNCTION_WORDS * function;
            if (functions != null && at >= 0 && at + FUNCTION_WORDS <= functions.length) {
                functions[at] = entry;
                functions[at + 1] = frame;
                functions[at + 2] = words;
            }
        }

        int aboutFunction(int function, int what) {
            int at = FUNCTION_WORDS * function + what;
            return functions != null && at >= 0 && at < functions.length ? functions[at] : 0;
        }
    }

    /** An expression that has been read: what it is, what it needs, and what is known of it. */
    private static final class Operand {
        int first;
        int sort;
        int state;
        /** The token of the name of the call that it is. */
        int call;
        Symbol symbol;
        int depth = 1;
        int height = 1;
        /** The rank of the operators that it is made of, 0 if it is no such chain. */
        int rank;
        int number;

        Operand(int first, int sort, int state) {
            this.first = first;
            this.sort = sort;
            this.state = state;
        }

        /** What an operator other than one between two has made of it. */
        void become(int newState) {
            sort = VALUE;
            rank = 0;
            depth++;
            state = newState;
        }
    }

    /** Reads expressions: their grammar, their meaning, and their instructions. */
    private static final class Expressions {
        private final Tokens tokens;
        private final Names names;
        private final Program program;

        Expressions(Tokens tokens, Names names, Program program) {
            this.tokens = tokens;
            this.names = names;
            this.program = program;
        }

        private static int rank(int kind) {
            switch (kind) {
                case EITHER: return 1;
                case BOTH: return 2;
                case '|': return 3;
                case '^': return 4;
                case '&': return 5;
                case EQ: case NE: return 6;
                case '<': case '>': case LE: case GE: return 7;
                case SHL: case SHR: return 8;
                case '+': case '-': return 9;
                case '*': case '/': case '%': return 10;
                default: return 0;
            }
        }

        private static boolean isPrefix(int kind) {
            return kind == '-' || kind == '+' || kind == '!' || kind == '~' || kind == INC || kind == DEC;
        }

        /** Reads an expression that binds as the level says, or more; what may be OPEN bounds how deep this goes. */
        private Operand parse(int level) {
            Operand x = operand();
            if (level == WHOLE && tokens.kind() >= ASSIGN) {
                return assign(x);
            }
            int rank = rank(tokens.kind());
            for (int i = 0; i < TAPE && rank > 0 && rank >= level; i++) {
                int operator = tokens.kind();
                tokens.openBehind(x.depth);
                number(x);
                int skip = shortcut(operator);
                Operand y = parse(rank + 1);
                number(y);
                tokens.shut();
                join(operator, skip);
                fold(x, operator, y);
                chain(x, rank, y);
                rank = rank(tokens.kind());
            }
            if (level <= CONDITION && tokens.kind() == '?') {
                choose(x);
            }
            return x;
        }

        /** Where x is wanted as a number, it is read now. */
        void number(Operand x) {
            if (x.sort == WHOLE_ROW) {
                tokens.blame(3, x.first);
            } else if (x.sort == NOTHING) {
                tokens.blame(5, x.call);
            } else if (x.sort == PLACE && x.symbol != null) {
                program.emit(LOAD, x.symbol.mode, x.symbol.base, x.symbol.size);
            }
            x.sort = VALUE;
        }

        /** Where x may be a number or void, and is not needed any more. */
        void drop(Operand x) {
            if (x.sort != NOTHING) {
                number(x);
            }
            program.emit(DROP, 0, 0, 0);
        }

        /** Where x is wanted as a constant: what it left in the code, from the mark before it on, is taken back. */
        Operand settle(int mark, Operand x) {
            number(x);
            program.size = mark;
            if (x.state == DIVIDES || x.state == VARIES) {
                tokens.blame(7, x.first);
            }
            return x;
        }

        private int shortcut(int operator) {
            if (operator == BOTH) {
                return program.emit(SKIP_FALSE, NOWHERE, 0, 0);
            }
            return operator == EITHER ? program.emit(SKIP_TRUE, NOWHERE, 0, 0) : NOWHERE;
        }

        private void join(int operator, int skip) {
            if (skip == NOWHERE) {
                program.emit(BINARY, operator, 0, 0);
            } else {
                program.emit(TRUTH, 0, 0, 0);
                program.aim(skip, program.size);
            }
        }

        private static void fold(Operand x, int operator, Operand y) {
            if (x.state == VARIES || y.state == VARIES) {
                x.state = VARIES;
            } else if (operator == BOTH || operator == EITHER) {
                foldLogic(x, operator == EITHER, y);
            } else if (x.state == DIVIDES || y.state == DIVIDES || y.state == KNOWN && byZero(operator, y.number)) {
                x.state = DIVIDES;
            } else if (x.state == UNKNOWN || y.state == UNKNOWN) {
                x.state = UNKNOWN;
            } else {
                x.number = reckon(operator, x.number, y.number);
            }
        }

        /** Only what is come to can divide by 0. */
        private static void foldLogic(Operand x, boolean either, Operand y) {
            if (x.state != KNOWN) {
                return;
            }
            if ((x.number != 0) == either) {
                x.number = either ? 1 : 0;
            } else {
                x.state = y.state;
                x.number = y.number != 0 ? 1 : 0;
            }
        }

        /** Operators of one rank from the left make one expression of all their operands. */
        private static void chain(Operand x, int rank, Operand y) {
            x.depth = Math.max(x.rank == rank ? x.depth : x.depth + 1, y.depth + 1);
            x.height = Math.max(x.height, y.height + 1);
            x.rank = rank;
        }

        private void choose(Operand x) {
            tokens.openBehind(x.depth);
            number(x);
            int over = program.emit(JUMP_ZERO, NOWHERE, 0, 0);
            Operand y = parse(WHOLE);
            number(y);
            tokens.expect(':');
            int behind = program.emit(JUMP, NOWHERE, 0, 0);
            program.aim(over, program.size);
            Operand z = parse(CONDITION);
            number(z);
            program.aim(behind, program.size);
            tokens.shut();
            int state = x.state;
            if (y.state == VARIES || z.state == VARIES) {
                state = VARIES;
            } else if (state == KNOWN) {
                Operand chosen = x.number != 0 ? y : z;
                state = chosen.state;
                x.number = chosen.number;
            }
            x.depth = Math.max(x.depth, Math.max(y.depth, z.depth));
            x.height = Math.max(x.height, Math.max(y.height, z.height));
            x.become(state);
        }

        /** Whether x can be assigned to. */
        private boolean isTarget(Operand x) {
            if (x.sort == WHOLE_ROW) {
                tokens.blame(3, x.first);
            } else if (x.sort == VALUE || x.sort == NOTHING) {
                tokens.blame(6, x.first);
            }
            return x.sort == PLACE && x.symbol != null;
        }

        private Operand assign(Operand x) {
            int operator = tokens.kind() - ASSIGN;
            tokens.openBehind(x.depth);
            boolean fits = isTarget(x);
            Operand y = parse(WHOLE);
            number(y);
            tokens.shut();
            boolean element = false;
            if (fits) {
                int op = operator == 0 ? STORE : UPDATE | operator << EXTRA;
                program.emit(op, x.symbol.mode, x.symbol.base, x.symbol.size);
                element = (x.symbol.mode & ROW) != 0;
            }
            x.height = element ? Math.max(x.height, y.height + 1) : y.height;
            x.depth = Math.max(x.depth, y.depth);
            x.become(VARIES);
            return x;
        }

        private Operand operand() {
            int kind = tokens.kind();
            if (isPrefix(kind)) {
                return prefix(kind);
            }
            int behind = kind == NAME ? tokens.kindBehind() : END;
            Operand x = null;
            if (kind == '(') {
                x = group();
            } else if (behind == '(') {
                x = call();
            } else if (behind == '[') {
                x = index();
            } else {
                x = kind == NAME ? named() : figure();
            }
            int last = tokens.kind();
            if (last == INC || last == DEC) {
                tokens.stepBehind(x.depth);
                increase(x, (last == DEC ? STEP_DOWN : 0) | STEP_BEHIND, isTarget(x));
            }
            return x;
        }

        private Operand prefix(int kind) {
            int first = tokens.now;
            tokens.open(kind);
            Operand x = operand();
            tokens.shut();
            if (kind == INC || kind == DEC) {
                increase(x, kind == DEC ? STEP_DOWN : 0, isTarget(x));
            } else {
                number(x);
            }
            if (kind == '-' || kind == '!' || kind == '~') {
                program.emit(UNARY, kind, 0, 0);
                x.number = reckonUnary(kind, x.number);
                x.become(x.state);
            }
            x.first = first;
            return x;
        }

        private void increase(Operand x, int how, boolean fits) {
            if (fits && x.symbol != null) {
                program.emit(STEP | how << EXTRA, x.symbol.mode, x.symbol.base, x.symbol.size);
            }
            x.become(VARIES);
        }

        private Operand group() {
            int first = tokens.now;
            tokens.open('(');
            Operand x = parse(WHOLE);
            tokens.close(')');
            x.first = first;
            return x;
        }

        private Operand figure() {
            Operand x = new Operand(tokens.now, VALUE, KNOWN);
            x.number = tokens.meaning();
            program.emit(PUSH, x.number, 0, 0);
            if (tokens.kind() == NUMBER) {
                tokens.step();
            } else {
                tokens.fail();
            }
            return x;
        }

        /** A name that is neither called nor has an index. */
        private Operand named() {
            Operand x = new Operand(tokens.now, VALUE, KNOWN);
            Symbol symbol = names.find(tokens.meaning());
            if (symbol == null) {
                tokens.blame(2, x.first);
                x.sort = WRONG;
                x.state = UNKNOWN;
            } else if (symbol.sort == ENUMERATED) {
                x.number = symbol.number;
                program.emit(PUSH, x.number, 0, 0);
            } else {
                x.symbol = symbol;
                x.sort = (symbol.mode & ROW) != 0 ? WHOLE_ROW : PLACE;
                x.state = VARIES;
            }
            tokens.step();
            return x;
        }

        private Operand index() {
            int name = tokens.meaning();
            Operand x = new Operand(tokens.now, WRONG, VARIES);
            Symbol symbol = names.find(name);
            if (symbol != null && (symbol.mode & ROW) != 0) {
                x.symbol = symbol;
                x.sort = PLACE;
            } else {
                tokens.blame(symbol == null && names.function(name) == null ? 2 : 3, x.first);
            }
            tokens.step();
            tokens.open('[');
            Operand y = parse(WHOLE);
            number(y);
            tokens.close(']');
            x.height = y.height;
            x.depth = y.depth + 1;
            return x;
        }

        private Operand call() {
            int name = tokens.meaning();
            Operand x = new Operand(tokens.now, WRONG, VARIES);
            Symbol function = names.find(name) == null ? names.function(name) : null;
            tokens.step();
            tokens.open('(');
            int given = 0;
            int held = 0;
            boolean going = tokens.kind() != ')';
            for (int i = 0; i < TAPE && going; i++) {
                Operand y = parse(WHOLE);
                boolean row = y.sort == WHOLE_ROW;
                int want = names.want(function, given);
                if (want == INT || want == CHAR) {
                    number(y);
                }
                hand(y, want);
                x.height = Math.max(x.height, held + (row ? 2 : y.height));
                x.depth = Math.max(x.depth, y.depth + 1);
                held += row ? 2 : 1;
                given++;
                going = tokens.accept(',');
            }
            tokens.close(')');
            conclude(x, function, given);
            return x;
        }

        /** What else is to be done with an argument, but for reading a number. */
        private void hand(Operand y, int want) {
            Symbol row = y.sort == WHOLE_ROW ? y.symbol : null;
            if (want == CHAR) {
                program.emit(TRIM, 0, 0, 0);
            } else if (want >= ROWS && row != null && (want == ROWS || want == ROWS + typeOf(row))) {
                program.emit(HAND_ROW, row.mode, row.base, row.size);
            } else if (want >= ROWS && y.sort != WRONG) {
                tokens.blame(3, y.first);
            }
        }

        private static int typeOf(Symbol variable) {
            return (variable.mode & CHARS) != 0 ? CHAR : INT;
        }

        private void conclude(Operand x, Symbol function, int given) {
            x.call = x.first;
            if (function == null) {
                tokens.blame(2, x.first);
                return;
            }
            if (given != function.size) {
                tokens.blame(4, x.first);
            }
            x.sort = function.type == VOID ? NOTHING : VALUE;
            int which = function.number;
            if (which == 0) {
                program.emit(LENGTH, 0, 0, 0);
            } else if (which < GIVEN_FUNCTIONS) {
                program.emit(SYSTEM, which, 0, 0);
            } else {
                program.emit(CALL, which - GIVEN_FUNCTIONS, 0, 0);
            }
        }
    }

    /** Reads texts: declarations and statements. */
    private static final class TextCompiler {
        private final Tokens tokens;
        private final Names names;
        private final Expressions expressions;
        private final Program program;
        /** What sets the variables of the text, and then begins main. */
        private final Program setup;
        private final int[] caseNumbers = new int[TAPE];
        private final int[] caseTargets = new int[TAPE];
        private int cases;
        /** A text is read twice, as functions are known before they are declared. */
        private boolean firstTime;
        /** The function that is read, or null. */
        private Symbol function;
        private int begun;
        private int globals;
        private int locals;
        private int height;
        private int loops;
        private int breakables;
        private int breaks;
        private int continues;

        TextCompiler(Tokens tokens, Names names, Program program, Expressions expressions) {
            this.tokens = tokens;
            this.names = names;
            this.program = program;
            this.expressions = expressions;
            setup = new Program(new int[MOST_SETUP], null, false);
        }

        /** 0 if the text is right, NONE if it is none, or what is wrong. */
        int compile(byte[] tape, int length) {
            tokens.scan(tape, length);
            names.forget();
            for (int time = 0; time < 2 && !tokens.failed; time++) {
                firstTime = time == 0;
                startOver();
                for (int i = 0; i <= length && !tokens.failed && tokens.kind() != END; i++) {
                    if (item()) {
                        int entry = program.size;
                        int words = locals;
                        tokens.open('{');
                        statements();
                        tokens.close('}');
                        endFunction(entry, words);
                    }
                }
            }
            if (tokens.failed) {
                return NONE;
            }
            judge();
            return tokens.wrongNumber;
        }

        int tellPlace() {
            return tokens.tellPlace();
        }

        /** The program that was read last, if it was right; the functions stand before what begins it. */
        Program finished() {
            int[] code = Arrays.copyOf(program.code, program.size + setup.size);
            System.arraycopy(setup.code, 0, code, program.size, setup.size);
            Program made = new Program(code, Arrays.copyOf(program.functions, FUNCTION_WORDS * begun), false);
            made.start = program.size;
            made.globals = globals;
            return made;
        }

        private void startOver() {
            tokens.rewind();
            names.clear();
            program.size = 0;
            setup.size = 0;
            function = null;
            begun = 0;
            globals = 0;
            cases = 0;
            loops = 0;
            breakables = 0;
            breaks = NOWHERE;
            continues = NOWHERE;
        }

        /** What is seen behind all tokens alone. */
        private void judge() {
            Symbol main = names.function(MAIN_NAME);
            if (main == null || main.type != INT || main.size != 1 || names.want(main, 0) != INT) {
                tokens.blame(12, tokens.last());
            } else {
                setup.emit(CALL, main.number - GIVEN_FUNCTIONS, 0, 0);
                setup.emit(FINISH, 0, 0, 0);
            }
            if (begun > MOST_FUNCTIONS || globals > MOST_WORDS) {
                tokens.blame(14, tokens.last());
            }
        }

        /** Reads what a text has; of a function all before its body, which follows if the answer is true. */
        private boolean item() {
            int type = tokens.kind();
            if (type == ENUM) {
                enumeration();
                return false;
            }
            if (type != INT && type != CHAR && type != VOID) {
                tokens.fail();
                return false;
            }
            tokens.step();
            if (tokens.kind() == NAME && tokens.kindBehind() == '(') {
                header(type);
                return true;
            }
            if (type == VOID) {
                tokens.expect(NAME);
                tokens.fail();
            }
            variables(type);
            tokens.expect(';');
            return false;
        }

        private void enumeration() {
            tokens.step();
            tokens.open('{');
            int number = 0;
            boolean going = true;
            for (int i = 0; i < TAPE && going; i++) {
                int token = tokens.now;
                Symbol symbol = new Symbol(tokens.meaning(), ENUMERATED);
                tokens.expect(NAME);
                if (tokens.accept(ASSIGN)) {
                    number = expressions.settle(program.size, expressions.parse(CONDITION)).number;
                }
                symbol.number = number;
                declare(symbol, token);
                number++;
                going = tokens.accept(',');
            }
            tokens.close('}');
            tokens.expect(';');
        }

        private void declare(Symbol symbol, int token) {
            boolean calledSo = function == null && names.function(symbol.name) != null;
            if (calledSo || names.isKnownHere(symbol.name)) {
                tokens.blame(1, token);
            }
            names.add(symbol);
        }

        private void header(int type) {
            int name = tokens.meaning();
            function = firstTime ? names.addFunction(name, type) : names.functionAt(GIVEN_FUNCTIONS + begun);
            if (names.function(name) != function) {
                tokens.blame(1, tokens.now);
            }
            begun++;
            locals = 0;
            height = 0;
            names.enter();
            tokens.step();
            tokens.open('(');
            boolean going = tokens.kind() != ')' && !tokens.accept(VOID);
            for (int i = 0; i < TAPE && going; i++) {
                parameter();
                going = tokens.accept(',');
            }
            tokens.close(')');
        }

        private void parameter() {
            int type = tokens.kind();
            if (type != INT && type != CHAR) {
                tokens.fail();
            }
            tokens.step();
            int token = tokens.now;
            Symbol symbol = new Symbol(tokens.meaning(), VARIABLE);
            symbol.mode = type == CHAR ? LOCAL | CHARS : LOCAL;
            symbol.base = locals;
            tokens.expect(NAME);
            boolean row = tokens.kind() == '[';
            if (row) {
                tokens.open('[');
                tokens.close(']');
                symbol.mode |= ROW | HANDED;
            }
            locals += row ? 2 : 1;
            if (firstTime && function != null) {
                names.addWant(function, row ? ROWS + type : type);
            }
            declare(symbol, token);
        }

        private void endFunction(int entry, int words) {
            program.emit(PUSH, 0, 0, 0);
            program.emit(GIVE, 0, 0, 0);
            int frame = FRAME_HEAD + locals + height;
            if (frame > MOST_WORDS) {
                tokens.blame(13, tokens.last());
            }
            program.define(begun - 1, entry, frame, words);
            names.leave(0);
            function = null;
        }

        private void statements() {
            for (int i = 0; i <= TAPE && !tokens.failed && tokens.kind() != '}'; i++) {
                statement();
            }
        }

        /** A statement within another stands where that has something OPEN, which bounds how deep this goes. */
        private void statement() {
            int kind = tokens.kind();
            switch (kind) {
                case '{':
                    block();
                    break;
                case ';':
                    tokens.step();
                    break;
                case INT: case CHAR:
                    tokens.step();
                    variables(kind);
                    tokens.expect(';');
                    break;
                case IF:
                    choice();
                    break;
                case WHILE:
                    whileLoop();
                    break;
                case DO:
                    doLoop();
                    break;
                case FOR:
                    forLoop();
                    break;
                case SWITCH:
                    selection();
                    break;
                case BREAK: case CONTINUE:
                    leap(kind);
                    break;
                case RETURN:
                    giveBack();
                    break;
                default:
                    effect();
                    tokens.expect(';');
                    break;
            }
        }

        private void block() {
            int outer = names.enter();
            tokens.open('{');
            statements();
            tokens.close('}');
            names.leave(outer);
        }

        private void effect() {
            Operand x = expressions.parse(WHOLE);
            expressions.drop(x);
            height = Math.max(height, x.height);
        }

        private void wholeNumber() {
            Operand x = expressions.parse(WHOLE);
            expressions.number(x);
            height = Math.max(height, x.height);
        }

        private void condition() {
            tokens.open('(');
            wholeNumber();
            tokens.close(')');
        }

        private void variables(int type) {
            boolean going = true;
            for (int i = 0; i < TAPE && going; i++) {
                int token = tokens.now;
                Symbol symbol = new Symbol(tokens.meaning(), VARIABLE);
                symbol.mode = (function == null ? 0 : LOCAL) | (type == CHAR ? CHARS : 0);
                tokens.expect(NAME);
                if (tokens.kind() != '[') {
                    single(symbol);
                } else if (row(symbol)) {
                    int value = tokens.now;
                    boolean fits = tokens.kind() == STRING ? string(symbol) : list(symbol);
                    if (!fits) {
                        tokens.blame(8, value);
                    }
                }
                declare(symbol, token);
                going = tokens.accept(',');
            }
        }

        /** Finds room for so many words, in the frame or among the variables of the text. */
        private int room(int words) {
            int base = function == null ? globals : locals;
            if (function == null) {
                globals += words;
            } else {
                locals += words;
            }
            return base;
        }

        private void single(Symbol symbol) {
            symbol.base = room(1);
            boolean given = tokens.accept(ASSIGN);
            if (!given && function != null) {
                program.emit(CLEAR, symbol.base, 1, 0);
            }
            if (!given) {
                return;
            }
            int mark = program.size;
            Operand x = expressions.parse(WHOLE);
            if (function == null) {
                expressions.settle(mark, x);
                setup.emit(SET, symbol.mode, symbol.base, x.number);
            } else {
                expressions.number(x);
                height = Math.max(height, x.height);
                program.emit(STORE, symbol.mode, symbol.base, 0);
                program.emit(DROP, 0, 0, 0);
            }
        }

        /** Reads the size of a row; answers whether = follows. */
        private boolean row(Symbol symbol) {
            tokens.open('[');
            Operand k = expressions.settle(program.size, expressions.parse(CONDITION));
            tokens.close(']');
            boolean sized = k.number >= 1 && k.number <= LARGEST_ROW;
            if (k.state == KNOWN && !sized) {
                tokens.blame(8, k.first);
            }
            symbol.mode |= ROW;
            symbol.size = sized ? k.number : 1;
            int words = (symbol.mode & CHARS) != 0 ? (symbol.size + 3) / 4 : symbol.size;
            symbol.base = room(words);
            if (function != null) {
                program.emit(CLEAR, symbol.base, words, 0);
            }
            return tokens.accept(ASSIGN);
        }

        /** Whether the string here can be what a row begins with; a wrong size is blamed before it, and counts as 1. */
        private boolean string(Symbol symbol) {
            int from = tokens.meaning();
            int count = tokens.quotedNumber(from);
            tokens.step();
            boolean fits = (symbol.mode & CHARS) != 0 && count < symbol.size;
            for (int i = 0; i < count && fits; i++) {
                element(symbol, i, tokens.quotedNumber(from + 1 + i));
            }
            return fits;
        }

        private boolean list(Symbol symbol) {
            tokens.open('{');
            int count = 0;
            boolean going = true;
            for (int i = 0; i < TAPE && going; i++) {
                Operand k = expressions.settle(program.size, expressions.parse(CONDITION));
                if (count < symbol.size) {
                    element(symbol, count, k.number);
                }
                count++;
                going = tokens.accept(',');
            }
            tokens.close('}');
            return count <= symbol.size;
        }

        private void element(Symbol symbol, int i, int number) {
            Program target = function == null ? setup : program;
            target.emit(SET | i << EXTRA, symbol.mode, symbol.base, number);
        }

        private void choice() {
            tokens.open(IF);
            condition();
            int over = program.emit(JUMP_ZERO, NOWHERE, 0, 0);
            statement();
            if (tokens.accept(ELSE)) {
                int behind = program.emit(JUMP, NOWHERE, 0, 0);
                program.aim(over, program.size);
                statement();
                program.aim(behind, program.size);
            } else {
                program.aim(over, program.size);
            }
            tokens.shut();
        }

        private void loopBody() {
            loops++;
            breakables++;
            program.emit(TURN, 0, 0, 0);
            statement();
            loops--;
            breakables--;
        }

        private void whileLoop() {
            int outerBreaks = breaks;
            int outerContinues = continues;
            continues = NOWHERE;
            tokens.open(WHILE);
            int top = program.size;
            condition();
            breaks = program.emit(JUMP_ZERO, NOWHERE, 0, 0);
            loopBody();
            program.emit(JUMP, top, 0, 0);
            program.aim(continues, top);
            program.aim(breaks, program.size);
            breaks = outerBreaks;
            continues = outerContinues;
            tokens.shut();
        }

        private void doLoop() {
            int outerBreaks = breaks;
            int outerContinues = continues;
            breaks = NOWHERE;
            continues = NOWHERE;
            tokens.open(DO);
            int top = program.size;
            loopBody();
            program.aim(continues, program.size);
            tokens.expect(WHILE);
            condition();
            tokens.expect(';');
            program.emit(JUMP_TRUE, top, 0, 0);
            program.aim(breaks, program.size);
            breaks = outerBreaks;
            continues = outerContinues;
            tokens.shut();
        }

        private void forLoop() {
            int outerBreaks = breaks;
            int outerContinues = continues;
            int outer = names.enter();
            breaks = NOWHERE;
            continues = NOWHERE;
            tokens.open(FOR);
            tokens.open('(');
            int type = tokens.kind();
            if (type == INT || type == CHAR) {
                tokens.step();
                variables(type);
            } else if (type != ';') {
                effect();
            }
            tokens.expect(';');
            int top = program.size;
            if (tokens.kind() != ';') {
                wholeNumber();
                breaks = program.emit(JUMP_ZERO, NOWHERE, 0, 0);
            }
            tokens.expect(';');
            int again = top;
            if (tokens.kind() != ')') {
                int over = program.emit(JUMP, NOWHERE, 0, 0);
                again = program.size;
                effect();
                program.emit(JUMP, top, 0, 0);
                program.aim(over, program.size);
            }
            tokens.close(')');
            loopBody();
            program.emit(JUMP, again, 0, 0);
            program.aim(continues, again);
            program.aim(breaks, program.size);
            breaks = outerBreaks;
            continues = outerContinues;
            names.leave(outer);
            tokens.shut();
        }

        /** The cases are compared behind the statements, as only there all are known. */
        private void selection() {
            int outerBreaks = breaks;
            int outer = names.enter();
            int firstCase = cases;
            int otherwise = NOWHERE;
            tokens.open(SWITCH);
            condition();
            int compare = program.emit(JUMP, NOWHERE, 0, 0);
            breaks = NOWHERE;
            breakables++;
            tokens.open('{');
            boolean labelled = false;
            for (int i = 0; i <= TAPE && !tokens.failed && tokens.kind() != '}'; i++) {
                int kind = tokens.kind();
                if (kind == CASE) {
                    labelCase(firstCase);
                } else if (kind == DEFAULT) {
                    labelDefault(otherwise);
                    otherwise = program.size;
                } else if (labelled) {
                    statement();
                } else {
                    tokens.fail();
                }
                labelled = true;
            }
            tokens.close('}');
            breakables--;
            breaks = program.emit(JUMP, breaks, 0, 0);
            program.aim(compare, program.size);
            compareCases(firstCase, otherwise);
            program.aim(breaks, program.size);
            breaks = outerBreaks;
            names.leave(outer);
            tokens.shut();
        }

        private void labelCase(int firstCase) {
            int token = tokens.now;
            tokens.step();
            Operand k = expressions.settle(program.size, expressions.parse(CONDITION));
            tokens.expect(':');
            for (int i = firstCase; i < cases && k.state == KNOWN; i++) {
                if (caseNumbers[i] == k.number) {
                    tokens.blame(10, token);
                }
            }
            if (cases < caseNumbers.length) {
                caseNumbers[cases] = k.number;
                caseTargets[cases] = program.size;
                cases++;
            }
        }

        private void labelDefault(int before) {
            if (before != NOWHERE) {
                tokens.blame(10, tokens.now);
            }
            tokens.step();
            tokens.expect(':');
        }

        private void compareCases(int firstCase, int otherwise) {
            for (int i = firstCase; i < cases; i++) {
                program.emit(PICK, caseTargets[i], caseNumbers[i], 0);
            }
            cases = firstCase;
            program.emit(DROP, 0, 0, 0);
            if (otherwise != NOWHERE) {
                program.emit(JUMP, otherwise, 0, 0);
            }
        }

        private void leap(int kind) {
            boolean leaves = kind == BREAK;
            if ((leaves ? breakables : loops) == 0) {
                tokens.blame(9, tokens.now);
            } else if (leaves) {
                breaks = program.emit(JUMP, breaks, 0, 0);
            } else {
                continues = program.emit(JUMP, continues, 0, 0);
            }
            tokens.step();
            tokens.expect(';');
        }

        private void giveBack() {
            int token = tokens.now;
            int type = function == null ? VOID : function.type;
            tokens.step();
            boolean given = tokens.kind() != ';';
            if (given == (type == VOID)) {
                tokens.blame(11, token);
            }
            if (!given) {
                program.emit(PUSH, 0, 0, 0);
            } else if (type == VOID) {
                expressions.parse(WHOLE);
            } else {
                wholeNumber();
            }
            if (type == CHAR) {
                program.emit(TRIM, 0, 0, 0);
            }
            program.emit(GIVE, 0, 0, 0);
            tokens.expect(';');
        }
    }

    /** A process: how it stands, what it wrote, and the call that it is in. */
    private abstract static class AnyProcess {
        final int id;
        final int[] numbers = new int[PAPER];
        int written;
        int outcome;
        int given;
        int children;
        /** Whether it is in a call, which one, and its arguments. */
        boolean calling;
        int which;
        int first;
        int second;

        AnyProcess(int id) {
            this.id = id;
        }

        final void reset() {
            written = 0;
            outcome = RUNNING;
            given = 0;
            children = 0;
            calling = false;
        }

        final void finish(int how, int number) {
            outcome = how;
            given = number;
            calling = false;
        }

        final void write(int number) {
            if (written < PAPER) {
                numbers[written] = number;
            }
            written++;
        }

        abstract void begin(Program program, int x, int work, int stack);

        /** Goes on to its next call or its end. */
        abstract void go();

        /** Its call is done. */
        abstract void answer(int number);

        /** How many words its call of get or set moves, NONE if these can't be moved. */
        abstract int movable();

        abstract int wordToMove(int i);

        abstract void moveWord(int i, int number);
    }

    /** A process of a text: its instructions work on a hand of numbers, a frame and the variables of the text. */
    private static final class TextProcess extends AnyProcess {
        private static final int RETURN_WORDS = 3;
        private final int[] memory = new int[MOST_WORDS + MOST_STACK];
        private final int[] hand = new int[MOST_STACK + WIDTH];
        /** For each open call where it goes on behind it, the frame before it, and the words that it took. */
        private final int[] returns = new int[RETURN_WORDS * (MOST_WORK + 1)];
        private Program program;
        private int pc;
        private int held;
        private int frame;
        private int top;
        private int depth;
        private int work;
        private int stack;
        private int cell;
        private int shift;
        private int rowFrom;
        private int rowSize;

        TextProcess(int id) {
            super(id);
        }

        void begin(Program text, int x, int workThen, int stackThen) {
            reset();
            program = text;
            work = workThen;
            stack = stackThen;
            pc = text.start;
            held = 0;
            depth = 0;
            frame = MOST_WORDS;
            top = MOST_WORDS;
            Arrays.fill(memory, 0, Math.max(0, Math.min(MOST_WORDS, text.globals)), 0);
            push(x);
        }

        void go() {
            for (int i = 0; i < MILLION && outcome == RUNNING && !calling; i++) {
                step();
            }
        }

        void answer(int number) {
            calling = false;
            push(number);
        }

        int movable() {
            return Math.min(BLOCK, rowSize);
        }

        int wordToMove(int i) {
            return peek(rowFrom + i);
        }

        void moveWord(int i, int number) {
            poke(rowFrom + i, number);
        }

        private int peek(int at) {
            return at >= 0 && at < memory.length ? memory[at] : 0;
        }

        private void poke(int at, int number) {
            if (at >= 0 && at < memory.length) {
                memory[at] = number;
            }
        }

        private void push(int number) {
            if (held < hand.length) {
                hand[held] = number;
                held++;
            }
        }

        private int pop() {
            if (held > 0) {
                held--;
            }
            return hand[held];
        }

        private void step() {
            int at = pc;
            if (program == null || at < 0 || at + WIDTH > program.code.length) {
                finish(FAULT, 0);
                return;
            }
            int op = program.code[at] & 255;
            int extra = program.code[at] >>> EXTRA;
            int a = program.code[at + 1];
            int b = program.code[at + 2];
            int c = program.code[at + 3];
            pc = at + WIDTH;
            if (op >= JUMP) {
                flow(op, a, b);
            } else if (op >= LOAD && op <= STEP) {
                access(op, extra, a, b, c);
            } else {
                compute(op, extra, a, b, c);
            }
        }

        private void compute(int op, int extra, int a, int b, int c) {
            switch (op) {
                case PUSH:
                    push(a);
                    break;
                case DROP:
                    pop();
                    break;
                case BINARY:
                    binary(a);
                    break;
                case UNARY:
                    push(reckonUnary(a, pop()));
                    break;
                case TRUTH:
                    push(pop() != 0 ? 1 : 0);
                    break;
                case TRIM:
                    push(pop() & 255);
                    break;
                case HAND_ROW:
                    push(rowStart(a, b));
                    push(rowLength(a, b, c));
                    break;
                case LENGTH:
                    int length = pop();
                    pop();
                    push(length);
                    break;
                case CLEAR:
                    for (int i = 0; i < b; i++) {
                        poke(frame + a + i, 0);
                    }
                    break;
                default:
                    lookUp(a, rowStart(a, b), extra);
                    keep(a, c);
                    break;
            }
        }

        private void binary(int operator) {
            int b = pop();
            int a = pop();
            if (byZero(operator, b)) {
                finish(ZERO, 0);
            } else {
                push(reckon(operator, a, b));
            }
        }

        private int rowStart(int mode, int base) {
            if ((mode & HANDED) != 0) {
                return peek(frame + base);
            }
            return (mode & LOCAL) != 0 ? frame + base : base;
        }

        private int rowLength(int mode, int base, int size) {
            return (mode & HANDED) != 0 ? peek(frame + base + 1) : size;
        }

        /** Looks up a variable, or element i of a row; four chars of a row share a word. */
        private void lookUp(int mode, int start, int i) {
            shift = NOWHERE;
            if ((mode & (ROW | CHARS)) == (ROW | CHARS)) {
                cell = start + (i >> 2);
                shift = 8 * (i & 3);
            } else {
                cell = start + i;
            }
        }

        private int look() {
            return shift == NOWHERE ? peek(cell) : peek(cell) >>> shift & 255;
        }

        /** Writes what was looked up; answers what it is then. */
        private int keep(int mode, int number) {
            int kept = (mode & CHARS) != 0 ? number & 255 : number;
            if (shift == NOWHERE) {
                poke(cell, kept);
            } else {
                poke(cell, peek(cell) & ~(255 << shift) | kept << shift);
            }
            return kept;
        }

        private void access(int op, int extra, int mode, int base, int size) {
            int given = op == STORE || op == UPDATE ? pop() : 0;
            int i = (mode & ROW) != 0 ? pop() : 0;
            if ((mode & ROW) != 0 && (i < 0 || i >= rowLength(mode, base, size))) {
                finish(OUT, 0);
                return;
            }
            lookUp(mode, rowStart(mode, base), i);
            int old = look();
            if (op == LOAD) {
                push(old);
            } else if (op == STORE) {
                push(keep(mode, given));
            } else if (op == STEP) {
                int stepped = keep(mode, (extra & STEP_DOWN) != 0 ? old - 1 : old + 1);
                push((extra & STEP_BEHIND) != 0 ? old : stepped);
            } else if (byZero(extra, given)) {
                finish(ZERO, 0);
            } else {
                push(keep(mode, reckon(extra, old, given)));
            }
        }

        private void flow(int op, int a, int b) {
            switch (op) {
                case JUMP:
                    pc = a;
                    break;
                case JUMP_ZERO:
                    pc = pop() == 0 ? a : pc;
                    break;
                case JUMP_TRUE:
                    pc = pop() != 0 ? a : pc;
                    break;
                case SKIP_FALSE: case SKIP_TRUE:
                    int decided = pop() != 0 ? SKIP_TRUE : SKIP_FALSE;
                    if (decided == op) {
                        push(op == SKIP_TRUE ? 1 : 0);
                        pc = a;
                    }
                    break;
                case PICK:
                    int number = pop();
                    if (number == b) {
                        pc = a;
                    } else {
                        push(number);
                    }
                    break;
                case TURN:
                    pay();
                    break;
                case CALL:
                    if (pay()) {
                        call(a);
                    }
                    break;
                case SYSTEM:
                    if (pay()) {
                        ask(a);
                    }
                    break;
                case GIVE:
                    give();
                    break;
                default:
                    finish(DONE, pop());
                    break;
            }
        }

        /** Takes 1 of the work; answers whether it was there. */
        private boolean pay() {
            if (work == 0) {
                finish(WORN, 0);
                return false;
            }
            work--;
            return true;
        }

        private void call(int function) {
            int size = program.aboutFunction(function, 1);
            int words = program.aboutFunction(function, 2);
            int at = RETURN_WORDS * depth;
            if (size > stack || at + RETURN_WORDS > returns.length) {
                finish(DEEP, 0);
                return;
            }
            stack -= size;
            returns[at] = pc;
            returns[at + 1] = frame;
            returns[at + 2] = size;
            depth++;
            frame = top;
            top += size;
            for (int i = size - 1; i >= 0; i--) {
                poke(frame + i, i < words ? pop() : 0);
            }
            pc = program.aboutFunction(function, 0);
        }

        /** Goes back behind the call; what is given stays in the hand. */
        private void give() {
            if (depth > 0) {
                depth--;
            }
            int at = RETURN_WORDS * depth;
            pc = returns[at];
            top = frame;
            frame = returns[at + 1];
            stack += returns[at + 2];
        }

        private void ask(int call) {
            if (call == GET_BLOCK || call == SET_BLOCK) {
                rowSize = pop();
                rowFrom = pop();
            } else if (call == SEND || call == SPAWN) {
                second = pop();
            }
            first = pop();
            which = call;
            calling = true;
        }
    }

    /** A process of raw words. */
    private static final class RawProcess extends AnyProcess {
        private final int[] registers = new int[REGISTERS];
        /** A page is the process's own from its first writing on; before that it is 0 throughout. */
        private final int[] pageTimes = new int[CELLS >> PAGE_BITS];
        private int[] memory;
        private int time;
        private int[] words;
        private int pc;
        private int next;
        private int meter;

        RawProcess(int id) {
            super(id);
        }

        void begin(Program program, int x, int work, int stack) {
            reset();
            Arrays.fill(registers, 0);
            registers[REGISTER_STACK] = HIGH_TO;
            registers[REGISTER_A] = x;
            words = program.code;
            pc = CODE_FROM;
            meter = RAW_WORK * work;
            time++;
        }

        void go() {
            for (int i = 0; i < MILLION && outcome == RUNNING && !calling; i++) {
                if (meter <= 0) {
                    finish(WORN, 0);
                } else if (isCode(pc)) {
                    next = pc + 4;
                    perform(wordAt(pc));
                } else {
                    finish(FAULT, 0);
                }
                if (outcome == RUNNING && !calling) {
                    meter--;
                    pc = next;
                }
            }
        }

        void answer(int number) {
            calling = false;
            if (which == RECV || which == MORE || which == SPAWN || which == WAIT) {
                registers[REGISTER_A] = number;
            }
            meter--;
            pc += 4;
        }

        int movable() {
            int from = registers[REGISTER_B];
            int count = Math.max(0, Math.min(BLOCK, registers[REGISTER_C]));
            if ((from & 3) != 0) {
                return NONE;
            }
            for (int i = 0; i < count; i++) {
                int address = from + 4 * i;
                if (cellAt(address) < 0 && (which == GET_BLOCK || !isCode(address))) {
                    return NONE;
                }
            }
            return count;
        }

        int wordToMove(int i) {
            return wordAt(registers[REGISTER_B] + 4 * i);
        }

        void moveWord(int i, int number) {
            setCell(cellAt(registers[REGISTER_B] + 4 * i), number);
        }

        private static boolean isCode(int address) {
            return address >= CODE_FROM && address < CODE_TO;
        }

        /** Which word of its own memory an address lies in, or -1. */
        private static int cellAt(int address) {
            if (address >= DATA_FROM && address < DATA_TO) {
                return (address - DATA_FROM) >> 2;
            }
            return address >= HIGH_FROM && address < HIGH_TO ? DATA_CELLS + ((address - HIGH_FROM) >> 2) : -1;
        }

        /** The word that an address lies in, 0 where nothing can be read. */
        private int wordAt(int address) {
            if (isCode(address)) {
                int i = (address - CODE_FROM) >> 2;
                return words != null && i < words.length ? words[i] : 0;
            }
            int cell = cellAt(address);
            boolean written = cell >= 0 && memory != null && pageTimes[cell >> PAGE_BITS] == time;
            return written ? memory[cell] : 0;
        }

        private void setCell(int cell, int number) {
            if (cell < 0 || cell >= CELLS) {
                return;
            }
            if (memory == null) {
                memory = new int[CELLS];
            }
            int page = cell >> PAGE_BITS;
            if (pageTimes[page] != time) {
                pageTimes[page] = time;
                Arrays.fill(memory, page << PAGE_BITS, (page + 1) << PAGE_BITS, 0);
            }
            memory[cell] = number;
        }

        private void setRegister(int d, int number) {
            if (d > 0 && d < REGISTERS) {
                registers[d] = number;
            }
        }

        private void perform(int word) {
            int d = word >>> 7 & 31;
            int f = word >>> 12 & 7;
            int a = registers[word >>> 15 & 31];
            int b = registers[word >>> 20 & 31];
            switch (word & 127) {
                case 0x37:
                    setRegister(d, word & 0xfffff000);
                    break;
                case 0x17:
                    setRegister(d, pc + (word & 0xfffff000));
                    break;
                case 0x6f:
                    jump(d, pc + jumpDistance(word));
                    break;
                case 0x67:
                    jumpIndirect(d, f, a + (word >> 20));
                    break;
                case 0x63:
                    branch(f, a, b, pc + branchDistance(word));
                    break;
                case 0x03:
                    load(d, f, a + (word >> 20));
                    break;
                case 0x23:
                    store(f, a + (word >> 25 << 5 | d), b);
                    break;
                case 0x13:
                    immediate(word, d, f, a);
                    break;
                case 0x33:
                    between(word >>> 25, d, f, a, b);
                    break;
                case 0x0f:
                    if (f != 0) {
                        finish(FAULT, 0);
                    }
                    break;
                default:
                    system(word);
                    break;
            }
        }

        private static int jumpDistance(int word) {
            return word >> 31 << 20 | word & 0xff000 | (word >>> 20 & 1) << 11 | (word >>> 21 & 0x3ff) << 1;
        }

        private static int branchDistance(int word) {
            return word >> 31 << 12 | (word >>> 7 & 1) << 11 | (word >>> 25 & 0x3f) << 5 | (word >>> 8 & 15) << 1;
        }

        private void jump(int d, int target) {
            if ((target & 3) != 0) {
                finish(FAULT, 0);
            } else {
                setRegister(d, pc + 4);
                next = target;
            }
        }

        private void jumpIndirect(int d, int f, int target) {
            if (f != 0) {
                finish(FAULT, 0);
            } else {
                jump(d, target & -2);
            }
        }

        private void branch(int f, int a, int b, int target) {
            boolean holds = false;
            switch (f >> 1) {
                case 0:
                    holds = a == b;
                    break;
                case 2:
                    holds = a < b;
                    break;
                case 3:
                    holds = below(a, b);
                    break;
                default:
                    finish(FAULT, 0);
                    return;
            }
            if (holds == ((f & 1) == 0)) {
                jump(0, target);
            }
        }

        private static boolean below(int a, int b) {
            return (a & UNSIGNED) < (b & UNSIGNED);
        }

        /** Whether a byte, a half or a word (1, 2, 4) may stand there. */
        private static boolean isAligned(int address, int size) {
            return (address & (size - 1)) == 0;
        }

        private void load(int d, int f, int address) {
            int size = 1 << (f & 3);
            if (f == 3 || f > 5 || !isAligned(address, size) || cellAt(address) < 0 && !isCode(address)) {
                finish(FAULT, 0);
                return;
            }
            int shifted = wordAt(address) >>> 8 * (address & 3);
            int unused = 32 - 8 * size;
            setRegister(d, f < 4 ? shifted << unused >> unused : shifted << unused >>> unused);
        }

        private void store(int f, int address, int number) {
            int cell = cellAt(address);
            if (f > 2 || !isAligned(address, 1 << f) || cell < 0) {
                finish(FAULT, 0);
                return;
            }
            int shift = 8 * (address & 3);
            int mask = -1 >>> 32 - (8 << f) << shift;
            setCell(cell, wordAt(address) & ~mask | number << shift & mask);
        }

        private void immediate(int word, int d, int f, int a) {
            int g = word >>> 25;
            boolean shifts = f == 1 || f == 5;
            if (shifts && g != 0 && (f != 5 || g != 0x20)) {
                finish(FAULT, 0);
            } else {
                setRegister(d, basic(f, a, shifts ? word >>> 20 & 31 : word >> 20, g == 0x20));
            }
        }

        private void between(int g, int d, int f, int a, int b) {
            if (g == 1) {
                setRegister(d, f < 4 ? product(f, a, b) : quotient(f, a, b));
            } else if (g == 0x20 && f == 0) {
                setRegister(d, a - b);
            } else if (g == 0 || g == 0x20 && f == 5) {
                setRegister(d, basic(f, a, b, g == 0x20));
            } else {
                finish(FAULT, 0);
            }
        }

        private static int basic(int f, int a, int y, boolean signed) {
            switch (f) {
                case 0: return a + y;
                case 1: return a << (y & 31);
                case 2: return a < y ? 1 : 0;
                case 3: return below(a, y) ? 1 : 0;
                case 4: return a ^ y;
                case 5: return signed ? a >> (y & 31) : a >>> (y & 31);
                case 6: return a | y;
                default: return a & y;
            }
        }

        private static int product(int f, int a, int y) {
            switch (f) {
                case 0: return a * y;
                case 1: return (int) ((long) a * (long) y >> 32);
                case 2: return (int) ((long) a * (y & UNSIGNED) >> 32);
                default: return (int) ((a & UNSIGNED) * (y & UNSIGNED) >>> 32);
            }
        }

        private static int quotient(int f, int a, int y) {
            boolean rest = f >= 6;
            if (y == 0) {
                return rest ? a : -1;
            }
            if ((f & 1) == 0) {
                return rest ? a % y : a / y;
            }
            long left = a & UNSIGNED;
            long right = y & UNSIGNED;
            return (int) (rest ? left % right : left / right);
        }

        private void system(int word) {
            int call = registers[REGISTER_CALL];
            first = registers[REGISTER_A];
            second = registers[REGISTER_B];
            if (word != 0x73) {
                finish(FAULT, 0);
            } else if (call == GAVE) {
                finish(DONE, first);
            } else if (call >= FIRST_FATE && call <= LAST_FATE) {
                finish(OUT + call - FIRST_FATE, 0);
            } else if (call < GAVE || call > END_CALL) {
                finish(FAULT, 0);
            } else {
                which = call;
                calling = true;
            }
        }
    }

    /** Begins processes, lets them go on, and does their calls. */
    private static final class Kernel {
        final Program[] programs = new Program[PROGRAMS];
        final int[] blocks = new int[DISK];
        /** Those of the last run; null where none was begun. */
        final AnyProcess[] processes = new AnyProcess[PROCESSES];
        private final TextProcess[] texts = new TextProcess[PROCESSES];
        private final RawProcess[] raws = new RawProcess[PROCESSES];
        /** Rows in both ways between each process and its parent: row 2 p goes up from p, row 2 p + 1 down to p. */
        private final int[] rowNumbers = new int[2 * PROCESSES * ROW_LENGTH];
        private final int[] rowHeads = new int[2 * PROCESSES];
        private final int[] rowCounts = new int[2 * PROCESSES];
        private int work;
        private int stack;

        int boot(int program, int x, int workOfEach, int stackOfEach) {
            work = workOfEach;
            stack = stackOfEach;
            Arrays.fill(rowHeads, 0);
            Arrays.fill(rowCounts, 0);
            for (int p = 0; p < PROCESSES; p++) {
                processes[p] = null;
            }
            begin(0, programs[program], x);
            boolean moved = true;
            for (int i = 0; i < MILLION && moved; i++) {
                moved = false;
                for (int p = 0; p < PROCESSES; p++) {
                    moved |= advance(processes[p]);
                }
            }
            for (int p = 0; p < PROCESSES; p++) {
                if (isRunning(p)) {
                    processes[p].finish(WAITS, 0);
                }
            }
            return processes[0] == null ? NONE : processes[0].outcome;
        }

        private void begin(int p, Program program, int x) {
            if (program == null) {
                return;
            }
            if (program.isRaw) {
                if (raws[p] == null) {
                    raws[p] = new RawProcess(p);
                }
                processes[p] = raws[p];
            } else {
                if (texts[p] == null) {
                    texts[p] = new TextProcess(p);
                }
                processes[p] = texts[p];
            }
            processes[p].begin(program, x, work, stack);
        }

        private boolean isRunning(int p) {
            return processes[p] != null && processes[p].outcome == RUNNING;
        }

        /** Lets a process go on until it ends or waits; answers whether it did anything. */
        private boolean advance(AnyProcess process) {
            boolean moved = false;
            boolean going = process != null && process.outcome == RUNNING;
            for (int i = 0; i < MILLION && going; i++) {
                if (process.calling && !serve(process)) {
                    going = false;
                } else {
                    moved = true;
                    process.go();
                    going = process.outcome == RUNNING;
                }
            }
            return moved;
        }

        /** Does a call; answers false if it waits. */
        private boolean serve(AnyProcess process) {
            int p = process.id;
            int other = partner(process);
            switch (process.which) {
                case PUT:
                    process.write(process.first);
                    process.answer(0);
                    return true;
                case SPAWN:
                    process.answer(spawn(process, process.first, process.second));
                    return true;
                case GET_BLOCK: case SET_BLOCK:
                    move(process, process.first);
                    return true;
                case END_CALL:
                    process.finish(ENDED, process.first);
                    return true;
                case SEND:
                    return send(process, other, process.first == 0 ? 2 * p : 2 * other + 1);
                case WAIT:
                    return await(process, process.first == 0 ? NONE : other);
                default:
                    return receive(process, other, process.first == 0 ? 2 * p + 1 : 2 * other);
            }
        }

        /** Whom the handle in a call means, or NONE. */
        private int partner(AnyProcess process) {
            int handle = process.first;
            if (handle == 0) {
                return process.id == 0 ? NONE : (process.id - 1) / 3;
            }
            return handle >= 1 && handle <= process.children ? 3 * process.id + handle : NONE;
        }

        private boolean send(AnyProcess process, int other, int row) {
            if (other == NONE) {
                process.finish(OUT, 0);
                return true;
            }
            if (isRunning(other)) {
                if (rowCounts[row] == ROW_LENGTH) {
                    return false;
                }
                rowNumbers[ROW_LENGTH * row + (rowHeads[row] + rowCounts[row]) % ROW_LENGTH] = process.second;
                rowCounts[row]++;
            }
            process.answer(0);
            return true;
        }

        /** Both recv and more: they wait for the same. */
        private boolean receive(AnyProcess process, int other, int row) {
            if (other == NONE) {
                process.finish(OUT, 0);
                return true;
            }
            boolean asks = process.which == MORE;
            if (rowCounts[row] == 0) {
                boolean over = asks && !isRunning(other);
                if (over) {
                    process.answer(0);
                }
                return over;
            }
            if (asks) {
                process.answer(1);
                return true;
            }
            int number = rowNumbers[ROW_LENGTH * row + rowHeads[row]];
            rowHeads[row] = (rowHeads[row] + 1) % ROW_LENGTH;
            rowCounts[row]--;
            process.answer(number);
            return true;
        }

        private boolean await(AnyProcess process, int other) {
            if (other == NONE) {
                process.finish(OUT, 0);
                return true;
            }
            if (isRunning(other) || processes[other] == null) {
                return false;
            }
            int how = processes[other].outcome;
            process.answer(how == DONE || how == ENDED ? processes[other].given : -how);
            return true;
        }

        private int spawn(AnyProcess process, int program, int x) {
            int child = 3 * process.id + process.children + 1;
            if (program < 0 || program >= PROGRAMS || programs[program] == null
                    || process.children == 3 || child >= PROCESSES) {
                return NONE;
            }
            process.children++;
            begin(child, programs[program], x);
            return process.children;
        }

        private void move(AnyProcess process, int block) {
            if (process.id != 0 || block < 0 || block >= BLOCKS) {
                process.finish(OUT, 0);
                return;
            }
            int count = process.movable();
            if (count == NONE) {
                process.finish(FAULT, 0);
                return;
            }
            for (int i = 0; i < count && i < BLOCK; i++) {
                if (process.which == GET_BLOCK) {
                    process.moveWord(i, blocks[BLOCK * block + i]);
                } else {
                    blocks[BLOCK * block + i] = process.wordToMove(i);
                }
            }
            process.answer(0);
        }

        /** How many numbers lie unread in a row; one is there only while its reader has not ended. */
        int left(int p, boolean up) {
            int reader = up ? (p - 1) / 3 : p;
            boolean there = processes[p] != null && processes[reader] != null && processes[reader].outcome == WAITS;
            return there ? rowCounts[up ? 2 * p : 2 * p + 1] : 0;
        }
    }
}
