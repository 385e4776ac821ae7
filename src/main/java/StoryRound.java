import java.util.Arrays;

/**
 * Stories of many voices, as ../shared/DOC.md tells them. A text is read into acts (Parser), its
 * names are linked (Linker), and a Stage lets the voices perform the acts, one at a time.
 */
public final class StoryRound {
    public static final int BAD = -1, STATE = -2, FULL = -3, NONE = -9;

    private final Tape tape;
    private final Story story;
    private final Parser parser;
    private final Linker linker;
    private final Stage stage;
    private boolean isRead;

    public StoryRound() {
        tape = new Tape();
        story = new Story();
        Tokens tokens = new Tokens(tape);
        parser = new Parser(tokens, story);
        linker = new Linker(tokens, story);
        stage = new Stage(story);
    }

    public int feed(long bytes, int n) {
        if (n < 1 || n > 8) {
            return BAD;
        }
        if (!tape.hasRoom(n)) {
            return FULL;
        }
        for (int i = 0; i < n; i++) {
            tape.add((int) (bytes >>> (8 * i)));
        }
        return tape.size();
    }

    public int drop() {
        int had = tape.size();
        tape.clear();
        return had;
    }

    public int compile() {
        int fault = parser.read();
        if (fault < 0) {
            fault = linker.link();
        }
        tape.clear();
        stage.reset();
        isRead = fault < 0;
        return isRead ? story.size() : -10 - fault;
    }

    public int body(int i, int what) {
        if (!isRead) {
            return STATE;
        }
        Body told = story.at(i);
        return told == null ? BAD : told.fact(what);
    }

    public int voice(int script, int a) {
        if (!plays()) {
            return STATE;
        }
        Body told = story.at(script);
        if (told == null || !told.isScript) {
            return BAD;
        }
        return stage.isFull() ? FULL : stage.make(script, told.arguments == 0 ? 0 : a, Stage.DESK);
    }

    public int resume(int voice, int v) {
        if (!plays()) {
            return STATE;
        }
        Voice one = stage.find(voice);
        if (one == null) {
            return BAD;
        }
        if (one.isOver()) {
            return Stage.WAS_OVER;
        }
        stage.deskResumes(one, v);
        stage.run();
        return stage.outcome();
    }

    public int inject(int voice, int kind, int v) {
        if (!plays()) {
            return STATE;
        }
        Voice one = stage.find(voice);
        if (one == null || kind < 0 || kind > 9) {
            return BAD;
        }
        if (one.isOver()) {
            return Stage.WAS_OVER;
        }
        stage.deskInjects(one, kind, v);
        stage.run();
        return stage.outcome();
    }

    public int close(int voice) {
        if (!plays()) {
            return STATE;
        }
        Voice one = stage.find(voice);
        if (one == null) {
            return BAD;
        }
        if (one.isOver()) {
            return 0;
        }
        stage.deskCloses(one);
        stage.run();
        return stage.outcome();
    }

    public int sweep() {
        if (!plays()) {
            return STATE;
        }
        int last = stage.findReached();
        int swept = 0;
        for (int i = 1; i <= last && !stage.isSpent(); i++) {
            Voice one = stage.find(i);
            if (one != null && one.isLost()) {
                swept++;
                stage.deskCloses(one);
                stage.run();
            }
        }
        return swept;
    }

    public int answer() {
        return isRead ? stage.given() : STATE;
    }

    public int told(int voice, int what) {
        if (!isRead) {
            return STATE;
        }
        Voice one = stage.find(voice);
        return one == null || what < 0 || what > 6 ? BAD : one.fact(what);
    }

    public int local(int voice, int call, int i) {
        if (!isRead) {
            return STATE;
        }
        Voice one = stage.find(voice);
        if (one == null) {
            return BAD;
        }
        if (one.state == Voice.NOT_BEGUN) {
            return call == 0 && i == 0 && hasArgument(one) ? one.argument : BAD;
        }
        int frame = one.frameOf(call);
        return i < 0 || i >= one.variablesOf(frame) ? BAD : one.variable(frame, i);
    }

    public int lines() {
        return isRead ? stage.lines.total() : STATE;
    }

    public int line(int i, int what) {
        return isRead ? kept(stage.lines, i, what) : STATE;
    }

    public int handings() {
        return isRead ? stage.handings.total() : STATE;
    }

    public int handing(int i, int what) {
        return isRead ? kept(stage.handings, i, what) : STATE;
    }

    public int failures() {
        return isRead ? stage.failures.listed() : STATE;
    }

    public int failure(int i, int what) {
        if (!isRead) {
            return STATE;
        }
        if (i < 0 || i >= stage.failures.listed() || what < 0 || what > 5) {
            return BAD;
        }
        return stage.failures.fact(i, what);
    }

    public int ring(int i) {
        return isRead ? stage.inRing(i) : STATE;
    }

    public int count(int what) {
        if (!isRead) {
            return STATE;
        }
        switch (what) {
            case 0:
                return story.size();
            case 1:
                return stage.made();
            case 2:
                return stage.alive();
            case 3:
                return stage.steps();
            case 4:
                return stage.isSpent() ? 1 : 0;
            default:
                return BAD;
        }
    }

    public long digest() {
        if (!isRead) {
            return 0;
        }
        long h = 17;
        for (int i = 1; i <= stage.made(); i++) {
            Voice one = stage.find(i);
            h = one == null ? h : one.mixInto(h);
        }
        h = stage.lines.mixInto(h);
        h = stage.handings.mixInto(h);
        return 31 * h + stage.steps();
    }

    private boolean plays() {
        return isRead && !stage.isSpent();
    }

    /** Without one the voice keeps a 0 in its place, which nobody may ask for. */
    private boolean hasArgument(Voice one) {
        Body of = story.at(one.script);
        return of != null && of.arguments > 0;
    }

    private static int kept(Pairs pairs, int i, int what) {
        if (what < 0 || what > 1) {
            return BAD;
        }
        return i < 0 || i >= pairs.kept() ? NONE : pairs.get(i, what);
    }

    /** The bytes that are fed and not read yet. */
    private static final class Tape {
        static final int LIMIT = 3000;

        private final byte[] bytes = new byte[LIMIT];
        private int size;

        boolean hasRoom(int n) {
            return size + n <= LIMIT;
        }

        void add(int b) {
            if (size < LIMIT) {
                bytes[size] = (byte) b;
                size++;
            }
        }

        int size() {
            return size;
        }

        void clear() {
            size = 0;
        }

        /** The byte at a place; -1 beyond the end. */
        int at(int place) {
            return place < 0 || place >= size || place >= LIMIT ? -1 : bytes[place] & 255;
        }
    }

    /** The tokens of the tape in rows, and the one that stands next; the kind of a sign is its own character. */
    private static final class Tokens {
        static final int END = 0, NAME = 2, NUMBER = 3, SAME = 4, LONG_NAME = 5, LONG_NUMBER = 6;
        static final int VOICE = 200, DO = 201, IF = 202, ELSE = 203, WHILE = 204, TRY = 205;
        static final int CATCH = 206, FINALLY = 207, THROW = 208, RETURN = 209, TELL = 210;
        static final int YIELD = 211, NEW = 212, RESUME = 213, INJECT = 214, CLOSE = 215;
        static final int HAND = 216, WITH = 217, INTO = 218, ME = 219, STATE_OF = 220;
        static final int EACH = 221, OF = 222;
        static final int MOST_LETTERS = 8, MOST_FIGURES = 9;

        private static final int BROKEN = 1, KEY_COUNT = 23;
        private static final String SIGNS = "(){},;=+-*/%<!";
        // In the order of the kinds from VOICE on; a blank ends each.
        private static final String KEYS =
                "voice do if else while try catch finally throw return tell yield new resume inject close hand with into me state each of ";

        private final Tape tape;
        private final long[] keys = new long[KEY_COUNT];
        private int[] kinds = new int[64];
        private int[] places = new int[64];
        // Of a NUMBER its value, of a NAME its letters, five bits for each.
        private long[] values = new long[64];
        private int size;
        private int at;
        int kind;
        int place;

        Tokens(Tape tape) {
            this.tape = tape;
            long packed = 0;
            int n = 0;
            for (int i = 0; i < KEYS.length(); i++) {
                char c = KEYS.charAt(i);
                if (c != ' ') {
                    packed = packed * 32 + (c - 'a' + 1);
                } else if (n < KEY_COUNT) {
                    keys[n] = packed;
                    n++;
                    packed = 0;
                }
            }
        }

        /** Reads the tape into the rows, and stands at the first token. */
        void readTape() {
            size = 0;
            int from = 0;
            for (int i = 0; i < Tape.LIMIT && from < tape.size(); i++) {
                int c = tape.at(from);
                if (c == 32 || c == 10) {
                    from++;
                } else if (isLetter(c)) {
                    from = readName(from);
                } else if (isFigure(c)) {
                    from = readNumber(from);
                } else {
                    from = readSign(from, c);
                }
            }
            add(END, tape.size(), 0);
            at = -1;
            next();
        }

        void next() {
            at = at < size - 1 ? at + 1 : at;
            if (at >= 0 && at < kinds.length) {
                kind = kinds[at];
                place = places[at];
            }
        }

        int index() {
            return at;
        }

        /** The kind of the token behind the one that stands next. */
        int kindBehind() {
            return at < 0 || at + 1 >= size ? END : kinds[at + 1];
        }

        long valueOf(int i) {
            return i < 0 || i >= size ? 0 : values[i];
        }

        int placeOf(int i) {
            return i < 0 || i >= size ? 0 : places[i];
        }

        private int readName(int from) {
            int end = from;
            long packed = 0;
            while (end < tape.size() && isLetter(tape.at(end))) {
                packed = end - from < MOST_LETTERS ? packed * 32 + (tape.at(end) - 'a' + 1) : packed;
                end++;
            }
            // No key has as many letters as a name may have, so one that is cut off is none.
            add(end - from > MOST_LETTERS ? LONG_NAME : kindOfName(packed), from, packed);
            return end;
        }

        private int kindOfName(long packed) {
            for (int i = 0; i < KEY_COUNT; i++) {
                if (keys[i] == packed) {
                    return VOICE + i;
                }
            }
            return NAME;
        }

        private int readNumber(int from) {
            int end = from;
            long number = 0;
            while (end < tape.size() && isFigure(tape.at(end))) {
                number = end - from < MOST_FIGURES ? number * 10 + (tape.at(end) - '0') : number;
                end++;
            }
            add(end - from > MOST_FIGURES ? LONG_NUMBER : NUMBER, from, number);
            return end;
        }

        private int readSign(int from, int c) {
            if (c == '=' && tape.at(from + 1) == '=') {
                add(SAME, from, 0);
                return from + 2;
            }
            add(SIGNS.indexOf((char) c) < 0 ? BROKEN : c, from, 0);
            return from + 1;
        }

        private void add(int ofKind, int from, long value) {
            if (size >= kinds.length) {
                kinds = Arrays.copyOf(kinds, 2 * size);
                places = Arrays.copyOf(places, 2 * size);
                values = Arrays.copyOf(values, 2 * size);
            }
            kinds[size] = ofKind;
            places[size] = from;
            values[size] = value;
            size++;
        }

        private static boolean isLetter(int c) {
            return c >= 'a' && c <= 'z';
        }

        private static boolean isFigure(int c) {
            return c >= '0' && c <= '9';
        }
    }

    /** The acts of a story: each has a number of its kind, and an argument. */
    private static final class Code {
        // What a voice does with its own cells alone.
        static final int CONST = 1, LOAD = 2, STORE = 3, POP = 4, ME = 5, NEGATE = 6, NOT = 7;
        static final int ADD = 8, TAKE = 9, TIMES = 10, OVER = 11, REST = 12, LESS = 13, SAME = 14;
        static final int JUMP = 15, JUMP_IF_NOT = 16;
        // What is the stage's.
        static final int FIRST_OF_STAGE = 20;
        static final int STEP = 20, TELL = 21, STATE_OF = 22, NEW = 23, CALL = 24, YIELD = 25;
        static final int RESUME = 26, INJECT = 27, HAND = 28, CLOSE = 29, EACH = 30;
        // What opens, passes and ends guards.
        static final int FIRST_OF_GUARDS = 40;
        static final int TRY = 40, CATCH = 41, NEXT = 42, FINALLY = 43, NO_FINALLY = 44;
        static final int END_FINALLY = 45, RETURN = 46, THROW = 47;

        private byte[] acts = new byte[128];
        private int[] arguments = new int[128];
        private int size;

        void clear() {
            size = 0;
        }

        int size() {
            return size;
        }

        int add(int act, int argument) {
            if (size >= acts.length) {
                acts = Arrays.copyOf(acts, 2 * size);
                arguments = Arrays.copyOf(arguments, 2 * size);
            }
            acts[size] = (byte) act;
            arguments[size] = argument;
            size++;
            return size - 1;
        }

        int act(int i) {
            return i < 0 || i >= size ? 0 : acts[i];
        }

        int argument(int i) {
            return i < 0 || i >= size ? 0 : arguments[i];
        }

        void patch(int i, int argument) {
            if (i >= 0 && i < size) {
                arguments[i] = argument;
            }
        }
    }

    /** A script or a procedure. */
    private static final class Body {
        static final int MOST_VARIABLES = 12;

        private final long[] names = new long[MOST_VARIABLES];
        long name;
        boolean isScript;
        int place;
        int arguments;
        int variables;
        int start;
        int end;
        int thirteenth;

        void begin(boolean script, long called, int at, int firstAct) {
            isScript = script;
            name = called;
            place = at;
            arguments = 0;
            variables = 0;
            start = firstAct;
            end = firstAct;
            thirteenth = NONE;
        }

        /** The number of a variable; NONE: the body has not such a one. */
        int find(long called) {
            for (int i = 0; i < variables && i < MOST_VARIABLES; i++) {
                if (names[i] == called) {
                    return i;
                }
            }
            return NONE;
        }

        void declare(long called, int at) {
            if (find(called) != NONE) {
                return;
            }
            if (variables < MOST_VARIABLES) {
                names[variables] = called;
                variables++;
            } else if (thirteenth == NONE) {
                thirteenth = at;
            }
        }

        int fact(int what) {
            switch (what) {
                case 0:
                    return isScript ? 1 : 0;
                case 1:
                    return arguments;
                case 2:
                    return variables;
                case 3:
                    return place;
                default:
                    return BAD;
            }
        }
    }

    /** The bodies that are read, their acts, and the least place of a wrong name so far. */
    private static final class Story {
        static final int MOST_BODIES = 12;

        final Code code = new Code();
        private final Body[] bodies = new Body[MOST_BODIES];
        private int size;
        private int wrongName;

        void clear() {
            code.clear();
            size = 0;
            wrongName = NONE;
        }

        int size() {
            return size;
        }

        Body at(int i) {
            return i < 0 || i >= size || i >= MOST_BODIES ? null : bodies[i];
        }

        /** The number of the first body with a name; NONE: no such one. */
        int find(long name) {
            for (int i = 0; i < size && i < MOST_BODIES; i++) {
                if (bodies[i] != null && bodies[i].name == name) {
                    return i;
                }
            }
            return NONE;
        }

        /** The next body, to be begun; null: there are as many as there may be. */
        Body add() {
            if (size >= MOST_BODIES) {
                return null;
            }
            if (bodies[size] == null) {
                bodies[size] = new Body();
            }
            // One that is used again still has the name of an older story.
            bodies[size].name = 0;
            size++;
            return bodies[size - 1];
        }

        void noteWrongName(int place) {
            if (wrongName == NONE || place < wrongName) {
                wrongName = place;
            }
        }

        int wrongName() {
            return wrongName;
        }
    }

    /**
     * Makes acts of the tokens. Names are left as the numbers of their tokens: LOAD and STORE have
     * -1 - token, CALL and NEW have 8 * token + the number of values, until the Linker comes.
     */
    private static final class Parser {
        private static final int MOST_OPEN = 24, MOST_ARGUMENTS = 4, MOST_TOKENS = 3001;

        private final Tokens tokens;
        private final Story story;
        private final Code code;
        private Body current;
        private int open;
        private int fault;

        Parser(Tokens tokens, Story story) {
            this.tokens = tokens;
            this.story = story;
            code = story.code;
        }

        /** The fault of the text; NONE: there is none, but for its names. */
        int read() {
            story.clear();
            tokens.readTape();
            open = 0;
            fault = NONE;
            for (int i = 0; i <= Story.MOST_BODIES && fault == NONE; i++) {
                if (i > 0 && tokens.kind == Tokens.END) {
                    break;
                }
                if (readHead() && readBlock() && current != null) {
                    code.add(Code.CONST, 0);
                    code.add(Code.RETURN, 0);
                    current.end = code.size();
                }
            }
            return fault;
        }

        private boolean refuse(int place) {
            fault = place;
            return false;
        }

        private boolean take(int kind) {
            if (tokens.kind != kind) {
                return refuse(tokens.place);
            }
            tokens.next();
            return true;
        }

        private boolean takeOpening(int kind) {
            if (tokens.kind != kind || open >= MOST_OPEN) {
                return refuse(tokens.place);
            }
            open++;
            tokens.next();
            return true;
        }

        private boolean takeClosing(int kind) {
            if (tokens.kind != kind) {
                return refuse(tokens.place);
            }
            open--;
            tokens.next();
            return true;
        }

        private boolean isName() {
            if (tokens.kind == Tokens.LONG_NAME) {
                return refuse(tokens.place + Tokens.MOST_LETTERS);
            }
            return tokens.kind == Tokens.NAME || refuse(tokens.place);
        }

        private boolean isNumber() {
            if (tokens.kind == Tokens.LONG_NUMBER) {
                return refuse(tokens.place + Tokens.MOST_FIGURES);
            }
            return tokens.kind == Tokens.NUMBER || refuse(tokens.place);
        }

        private int numberHere() {
            return (int) tokens.valueOf(tokens.index());
        }

        private boolean readHead() {
            boolean script = tokens.kind == Tokens.VOICE;
            current = script || tokens.kind == Tokens.DO ? story.add() : null;
            if (current == null) {
                return refuse(tokens.place);
            }
            tokens.next();
            if (!isName()) {
                return false;
            }
            long name = tokens.valueOf(tokens.index());
            if (story.find(name) != NONE) {
                story.noteWrongName(tokens.place);
            }
            current.begin(script, name, tokens.place, code.size());
            tokens.next();
            return takeOpening('(') && readArguments(script) && takeClosing(')');
        }

        private boolean readArguments(boolean script) {
            if (tokens.kind == ')') {
                return true;
            }
            for (int i = 0; i < MOST_ARGUMENTS; i++) {
                if (!isName()) {
                    return false;
                }
                long name = tokens.valueOf(tokens.index());
                if (current.find(name) != NONE) {
                    story.noteWrongName(tokens.place);
                }
                current.declare(name, tokens.place);
                current.arguments++;
                tokens.next();
                if (script || tokens.kind != ',') {
                    return true;
                }
                tokens.next();
            }
            return refuse(tokens.place);
        }

        private boolean readBlock() {
            if (!takeOpening('{')) {
                return false;
            }
            for (int i = 0; i < MOST_TOKENS && tokens.kind != '}'; i++) {
                if (!readStatement()) {
                    return false;
                }
            }
            return takeClosing('}');
        }

        private boolean readStatement() {
            int place = tokens.place;
            code.add(Code.STEP, place);
            switch (tokens.kind) {
                case Tokens.IF:
                    return readIf();
                case Tokens.WHILE:
                    return readWhile(place);
                case Tokens.EACH:
                    return readEach(place);
                case Tokens.TRY:
                    return readTry();
                case Tokens.RETURN:
                    return readReturn();
                case Tokens.THROW:
                    return readThrow();
                default:
                    return readSimple();
            }
        }

        /** tell E; close E; NAME = E; E; */
        private boolean readSimple() {
            int act = Code.POP;
            int argument = 0;
            if (tokens.kind == Tokens.TELL || tokens.kind == Tokens.CLOSE) {
                act = tokens.kind == Tokens.TELL ? Code.TELL : Code.CLOSE;
                tokens.next();
            } else if (tokens.kind == Tokens.NAME && tokens.kindBehind() == '=') {
                act = Code.STORE;
                argument = declareHere();
                tokens.next();
                tokens.next();
            }
            if (!readComparison() || !take(';')) {
                return false;
            }
            code.add(act, argument);
            return true;
        }

        private boolean readReturn() {
            tokens.next();
            if (tokens.kind == ';') {
                code.add(Code.CONST, 0);
            } else if (!readComparison()) {
                return false;
            }
            code.add(Code.RETURN, 0);
            return take(';');
        }

        private boolean readThrow() {
            tokens.next();
            if (!isNumber()) {
                return false;
            }
            int number = numberHere() % 10;
            tokens.next();
            if (!readComparison()) {
                return false;
            }
            code.add(Code.THROW, number);
            return take(';');
        }

        /** The variable that is named here comes to the body; what its STORE has until it is linked. */
        private int declareHere() {
            current.declare(tokens.valueOf(tokens.index()), tokens.place);
            return -1 - tokens.index();
        }

        private boolean readCondition() {
            return takeOpening('(') && readComparison() && takeClosing(')');
        }

        private boolean readIf() {
            tokens.next();
            if (!readCondition()) {
                return false;
            }
            int skip = code.add(Code.JUMP_IF_NOT, 0);
            if (!readBlock()) {
                return false;
            }
            if (tokens.kind == Tokens.ELSE) {
                tokens.next();
                int behind = code.add(Code.JUMP, 0);
                code.patch(skip, code.size());
                skip = behind;
                if (!readBlock()) {
                    return false;
                }
            }
            code.patch(skip, code.size());
            return true;
        }

        private boolean readWhile(int place) {
            tokens.next();
            int again = code.size();
            if (!readCondition()) {
                return false;
            }
            int leave = code.add(Code.JUMP_IF_NOT, 0);
            if (!readBlock()) {
                return false;
            }
            code.add(Code.STEP, place);
            code.add(Code.JUMP, again);
            code.patch(leave, code.size());
            return true;
        }

        private boolean readEach(int place) {
            tokens.next();
            if (!isName()) {
                return false;
            }
            int unlinked = declareHere();
            tokens.next();
            if (!take(Tokens.OF) || !readComparison()) {
                return false;
            }
            int again = code.add(Code.EACH, 0);
            code.add(Code.STORE, unlinked);
            if (!readBlock()) {
                return false;
            }
            code.add(Code.STEP, place);
            code.add(Code.JUMP, again);
            code.patch(again, code.size());
            return true;
        }

        private boolean readTry() {
            tokens.next();
            int guard = code.add(Code.TRY, 0);
            if (!readBlock()) {
                return false;
            }
            if (tokens.kind != Tokens.CATCH && tokens.kind != Tokens.FINALLY) {
                return refuse(tokens.place);
            }
            // Each JUMP to the end keeps the one before it until all of them can be told where it is.
            int leave = code.add(Code.JUMP, NONE);
            code.patch(guard, code.size());
            for (int i = 0; i < MOST_TOKENS && tokens.kind == Tokens.CATCH; i++) {
                int next = readCatchHead();
                if (next == NONE || !readBlock()) {
                    return false;
                }
                leave = code.add(Code.JUMP, leave);
                code.patch(next, code.size());
            }
            for (int i = 0; i < MOST_TOKENS && leave != NONE; i++) {
                int before = code.argument(leave);
                code.patch(leave, code.size());
                leave = before;
            }
            return readFinally();
        }

        /** Where the NEXT of a catch stands, whose argument is still open; NONE: a fault. */
        private int readCatchHead() {
            tokens.next();
            int number = Failures.ANY;
            if (tokens.kind == Tokens.NUMBER || tokens.kind == Tokens.LONG_NUMBER) {
                if (!isNumber()) {
                    return NONE;
                }
                number = numberHere();
                tokens.next();
            }
            if (!isName()) {
                return NONE;
            }
            code.add(Code.CATCH, number);
            int next = code.add(Code.NEXT, 0);
            code.add(Code.STORE, declareHere());
            tokens.next();
            return next;
        }

        private boolean readFinally() {
            if (tokens.kind != Tokens.FINALLY) {
                code.add(Code.NO_FINALLY, 0);
                return true;
            }
            tokens.next();
            code.add(Code.FINALLY, 0);
            if (!readBlock()) {
                return false;
            }
            code.add(Code.END_FINALLY, 0);
            return true;
        }

        private boolean readComparison() {
            if (!readSum()) {
                return false;
            }
            int kind = tokens.kind;
            if (kind != '<' && kind != Tokens.SAME) {
                return true;
            }
            tokens.next();
            if (!readSum()) {
                return false;
            }
            code.add(kind == '<' ? Code.LESS : Code.SAME, 0);
            return true;
        }

        private boolean readSum() {
            boolean stands = readProduct();
            for (int i = 0; i < MOST_TOKENS && stands && (tokens.kind == '+' || tokens.kind == '-'); i++) {
                int act = tokens.kind == '+' ? Code.ADD : Code.TAKE;
                tokens.next();
                stands = readProduct();
                code.add(act, 0);
            }
            return stands;
        }

        private boolean readProduct() {
            boolean stands = readUnary();
            for (int i = 0; i < MOST_TOKENS && stands && isProductSign(tokens.kind); i++) {
                int act = tokens.kind == '*' ? Code.TIMES : tokens.kind == '/' ? Code.OVER : Code.REST;
                tokens.next();
                stands = readUnary();
                code.add(act, 0);
            }
            return stands;
        }

        private static boolean isProductSign(int kind) {
            return kind == '*' || kind == '/' || kind == '%';
        }

        private boolean readUnary() {
            switch (tokens.kind) {
                case '-':
                    return readPrefix(Code.NEGATE);
                case '!':
                    return readPrefix(Code.NOT);
                case Tokens.STATE_OF:
                    return readPrefix(Code.STATE_OF);
                case Tokens.YIELD:
                    return readPrefix(Code.YIELD);
                case Tokens.RESUME:
                    return readWith(Code.RESUME);
                case Tokens.HAND:
                    return readWith(Code.HAND);
                case Tokens.INJECT:
                    return readInject();
                default:
                    return readPlain();
            }
        }

        private boolean readPrefix(int act) {
            if (!takeOpening(tokens.kind) || !readUnary()) {
                return false;
            }
            open--;
            code.add(act, 0);
            return true;
        }

        private boolean readWith(int act) {
            return takeOpening(tokens.kind) && readPairWith(act, 0);
        }

        private boolean readPairWith(int act, int argument) {
            if (!readUnary() || !take(Tokens.WITH) || !readUnary()) {
                return false;
            }
            open--;
            code.add(act, argument);
            return true;
        }

        private boolean readInject() {
            if (!takeOpening(Tokens.INJECT) || !isNumber()) {
                return false;
            }
            int number = numberHere() % 10;
            tokens.next();
            return take(Tokens.INTO) && readPairWith(Code.INJECT, number);
        }

        private boolean readPlain() {
            switch (tokens.kind) {
                case Tokens.NUMBER:
                case Tokens.LONG_NUMBER:
                    if (!isNumber()) {
                        return false;
                    }
                    code.add(Code.CONST, numberHere());
                    tokens.next();
                    return true;
                case Tokens.NAME:
                case Tokens.LONG_NAME:
                    return readVariableOrCall();
                case Tokens.ME:
                    code.add(Code.ME, 0);
                    tokens.next();
                    return true;
                case Tokens.NEW:
                    return readNew();
                default:
                    return readCondition();
            }
        }

        private boolean readVariableOrCall() {
            if (!isName()) {
                return false;
            }
            int token = tokens.index();
            tokens.next();
            if (tokens.kind != '(') {
                code.add(Code.LOAD, -1 - token);
                return true;
            }
            return takeOpening('(') && readValues(token, Code.CALL, MOST_ARGUMENTS);
        }

        private boolean readNew() {
            tokens.next();
            if (!isName()) {
                return false;
            }
            int token = tokens.index();
            tokens.next();
            return takeOpening('(') && readValues(token, Code.NEW, 1);
        }

        /** The values of a call or of new, and the sign that closes them. */
        private boolean readValues(int token, int act, int most) {
            int n = 0;
            boolean more = tokens.kind != ')';
            for (int i = 0; i < MOST_ARGUMENTS && more; i++) {
                if (!readComparison()) {
                    return false;
                }
                n++;
                more = most > 1 && tokens.kind == ',';
                if (more) {
                    tokens.next();
                }
            }
            if (more) {
                return refuse(tokens.place);
            }
            if (!takeClosing(')')) {
                return false;
            }
            if (act == Code.NEW && n == 0) {
                // A voice of a script without an argument has 0 there.
                code.add(Code.CONST, 0);
            }
            code.add(act, 8 * token + n);
            return true;
        }
    }

    /** Puts the numbers of variables and bodies where the Parser left the places of their names. */
    private static final class Linker {
        private final Tokens tokens;
        private final Story story;
        private final Code code;

        Linker(Tokens tokens, Story story) {
            this.tokens = tokens;
            this.story = story;
            code = story.code;
        }

        /** The least place of a name that is not as it has to be; NONE: there is none. */
        int link() {
            for (int i = 0; i < story.size(); i++) {
                Body one = story.at(i);
                if (one != null) {
                    linkActs(one);
                }
            }
            return story.wrongName();
        }

        private void linkActs(Body one) {
            if (one.thirteenth != NONE) {
                story.noteWrongName(one.thirteenth);
            }
            for (int i = one.start; i < one.end; i++) {
                int act = code.act(i);
                if (act == Code.LOAD || act == Code.STORE) {
                    linkVariable(one, i);
                } else if (act == Code.CALL || act == Code.NEW) {
                    linkBody(i, act == Code.NEW);
                }
            }
        }

        private void linkVariable(Body one, int i) {
            int token = -1 - code.argument(i);
            long name = tokens.valueOf(token);
            int number = one.find(name);
            if (number != NONE) {
                code.patch(i, number);
            } else if (code.act(i) == Code.LOAD && !isStored(one, name)) {
                story.noteWrongName(tokens.placeOf(token));
            }
        }

        /** Whether a name is one of too many variables: it is not missing then, but its 13th is wrong. */
        private boolean isStored(Body one, long name) {
            for (int i = one.start; i < one.end && one.thirteenth != NONE; i++) {
                // One that is linked has a number from 0 on, and is none of those beyond the 12th.
                if (code.act(i) == Code.STORE && code.argument(i) < 0
                        && tokens.valueOf(-1 - code.argument(i)) == name) {
                    return true;
                }
            }
            return false;
        }

        private void linkBody(int i, boolean script) {
            int token = code.argument(i) / 8;
            int number = story.find(tokens.valueOf(token));
            Body called = story.at(number);
            if (called == null || called.isScript != script || called.arguments != code.argument(i) % 8) {
                story.noteWrongName(tokens.placeOf(token));
            } else {
                code.patch(i, number);
            }
        }
    }

    /**
     * A voice and its cells. A call has a frame there: how many variables, the act to go back to,
     * the frame of its caller, the place of its statement, then the variables. A guard that is open
     * has a record behind its frame: the guard around it, the first act of its handlers, its phase,
     * and what the phase keeps (a failure, or the value of a return).
     */
    private static final class Voice {
        static final int NOT_BEGUN = 0, AT_YIELD = 1, UNDER_WAY = 2, WAITING = 3;
        static final int ENDED = 4, FAILED = 5, CLOSED = 6;
        static final int IN_BLOCK = 0, IN_CATCH = 1, FINISHING = 2, FAILING = 3, RETURNING = 4;
        static final int MOST_GUARDS = 24;
        static final int UNREACHED = 0, REACHED = 1, LOOKED_INTO = 2;

        private static final int FRAME = 4, GO_BACK = 1, CALLER = 2, PLACE = 3;
        private static final int RECORD = 4, HANDLERS = 1, PHASE = 2, KEPT = 3;
        private static final int MOST_CALLS = 60, FIRST_CELLS = 40;
        private static final int[] NO_CELLS = {};

        int number;
        int state;
        int script;
        int argument;
        int maker;
        int resumer;
        int steps;
        int finished;
        int calls;
        int pc;
        int reached;
        boolean isClosing;
        private int[] cells = NO_CELLS;
        private int top;
        private int base;
        private int guard;

        void reset(int called, int ofScript, int value, int by) {
            number = called;
            script = ofScript;
            argument = value;
            maker = by;
            state = NOT_BEGUN;
            resumer = NONE;
            steps = 0;
            finished = 0;
            calls = 0;
            isClosing = false;
        }

        boolean isOver() {
            return state >= ENDED;
        }

        /** Whether it can be resumed. */
        boolean isReady() {
            return state == NOT_BEGUN || state == AT_YIELD;
        }

        boolean isLost() {
            return reached == UNREACHED && !isOver();
        }

        /** Its argument alone, on cells that another voice may have used (null: on new ones). */
        void begin(int[] row) {
            cells = row == null ? new int[FIRST_CELLS] : row;
            put(0, argument);
            top = 1;
            base = 0;
            guard = NONE;
            pc = NONE;
        }

        /** It is over: the cells are given back for another one. */
        int[] end(int as) {
            int[] row = cells.length == 0 ? null : cells;
            state = as;
            calls = 0;
            cells = NO_CELLS;
            return row;
        }

        void push(int value) {
            if (top >= cells.length) {
                cells = Arrays.copyOf(cells, 2 * top + 1);
            }
            if (top >= 0) {
                cells[top] = value;
                top++;
            }
        }

        int pop() {
            if (top <= 0 || top > cells.length) {
                return 0;
            }
            top--;
            return cells[top];
        }

        int peek() {
            return cell(top - 1);
        }

        private int cell(int i) {
            return i < 0 || i >= cells.length ? 0 : cells[i];
        }

        private void put(int i, int value) {
            if (i >= 0 && i < cells.length) {
                cells[i] = value;
            }
        }

        boolean canCall() {
            return calls < MOST_CALLS;
        }

        /** A call whose arguments have been pushed. */
        void enter(Body of) {
            int from = Math.max(0, top - of.arguments);
            int end = from + FRAME + of.variables;
            if (end > cells.length) {
                cells = Arrays.copyOf(cells, 2 * end);
            }
            for (int i = of.variables - 1; i >= 0; i--) {
                put(from + FRAME + i, i < of.arguments ? cell(from + i) : 0);
            }
            put(from, of.variables);
            put(from + GO_BACK, pc);
            put(from + CALLER, base);
            put(from + PLACE, NONE);
            base = from;
            top = end;
            pc = of.start;
            calls++;
        }

        /** Back to the caller of the innermost call, if it is not the first one. */
        boolean leave() {
            if (calls <= 1) {
                return false;
            }
            top = base;
            pc = cell(base + GO_BACK);
            base = cell(base + CALLER);
            calls--;
            return true;
        }

        int place() {
            int at = base + PLACE;
            return at < 0 || at >= cells.length ? NONE : cells[at];
        }

        void setPlace(int place) {
            put(base + PLACE, place);
        }

        /** The frame of a call, 0 the innermost; NONE: none such. */
        int frameOf(int call) {
            if (call < 0 || call >= calls) {
                return NONE;
            }
            int frame = base;
            for (int i = 0; i < call; i++) {
                frame = cell(frame + CALLER);
            }
            return frame;
        }

        int variablesOf(int frame) {
            return frame < 0 ? 0 : cell(frame);
        }

        int variable(int frame, int i) {
            return cell(frame + FRAME + i);
        }

        void openGuard(int handlers) {
            int from = top;
            push(guard);
            push(handlers);
            push(IN_BLOCK);
            push(0);
            guard = from;
        }

        /** Whether a guard of the innermost call is open. */
        boolean isGuarded() {
            return guard > base;
        }

        /** Whether the innermost guard is in its block or a catch, not in its finally. */
        boolean isInGuarded() {
            int phase = cell(guard + PHASE);
            return phase == IN_BLOCK || phase == IN_CATCH;
        }

        int handlers() {
            return cell(guard + HANDLERS);
        }

        int phase() {
            return cell(guard + PHASE);
        }

        int keptByGuard() {
            return cell(guard + KEPT);
        }

        /** The innermost guard goes on with a phase at an act; what was begun above it is gone. */
        void turnGuard(int phase, int kept, int act) {
            put(guard + PHASE, phase);
            put(guard + KEPT, kept);
            top = guard + RECORD;
            pc = act;
        }

        void closeGuard() {
            top = guard;
            guard = cell(guard);
        }

        /** The failure of the innermost catch that runs in the innermost call; 0: none. */
        int caught() {
            int record = guard;
            for (int i = 0; i < MOST_GUARDS && record > base; i++) {
                if (cell(record + PHASE) == IN_CATCH) {
                    return cell(record + KEPT);
                }
                record = cell(record);
            }
            return 0;
        }

        /** An act that needs no more than the cells: false, if it divides by 0. */
        boolean work(int act, int operand) {
            switch (act) {
                case Code.CONST:
                    push(operand);
                    return true;
                case Code.LOAD:
                    push(variable(base, operand));
                    return true;
                case Code.STORE:
                    put(base + FRAME + operand, pop());
                    return true;
                case Code.POP:
                    pop();
                    return true;
                case Code.ME:
                    push(number);
                    return true;
                case Code.NEGATE:
                    push(-pop());
                    return true;
                case Code.NOT:
                    push(pop() == 0 ? 1 : 0);
                    return true;
                case Code.JUMP:
                    pc = operand;
                    return true;
                case Code.JUMP_IF_NOT:
                    pc = pop() == 0 ? operand : pc;
                    return true;
                default:
                    return combine(act);
            }
        }

        private boolean combine(int act) {
            int b = pop();
            int a = pop();
            switch (act) {
                case Code.ADD:
                    push(a + b);
                    return true;
                case Code.TAKE:
                    push(a - b);
                    return true;
                case Code.TIMES:
                    push(a * b);
                    return true;
                case Code.LESS:
                    push(a < b ? 1 : 0);
                    return true;
                case Code.SAME:
                    push(a == b ? 1 : 0);
                    return true;
                default:
                    if (b == 0) {
                        return false;
                    }
                    push(act == Code.OVER ? a / b : a % b);
                    return true;
            }
        }

        int fact(int what) {
            switch (what) {
                case 0:
                    return state;
                case 1:
                    return script;
                case 2:
                    return steps;
                case 3:
                    return finished;
                case 4:
                    return calls;
                case 5:
                    return resumer;
                default:
                    return maker;
            }
        }

        long mixInto(long h) {
            long mixed = h;
            for (int what = 0; what <= 6; what++) {
                mixed = 31 * mixed + fact(what);
            }
            int frame = base;
            for (int call = 0; call < calls; call++) {
                for (int i = 0; i < cell(frame); i++) {
                    mixed = 31 * mixed + variable(frame, i);
                }
                frame = cell(frame + CALLER);
            }
            return mixed;
        }
    }

    /** All failures of a story, from 1 on (0 is none), and the list of the one that came out last. */
    private static final class Failures {
        static final int MISUSE = 10, NOUGHT = 11, DEEP = 12, MANY = 13, CLOSE = 14;
        static final int ANY = -1;

        private static final int NUMBER = 0, VALUE = 1, VOICE = 2, PLACE = 3;
        private static final int CAUSE = 4, FIRST = 5, LAST = 6, BEHIND = 7, WIDTH = 8;
        private static final int MOST_LISTED = 40;
        private static final int FIRST_WAY = 0, AS_CAUSE = 1, AS_BENEATH = 2;

        private int[] rows = new int[8 * WIDTH];
        private int used;
        private int latest;
        private boolean isListed;
        private int listed;
        private final int[] which = new int[MOST_LISTED];
        private final int[] depths = new int[MOST_LISTED];
        private final int[] ways = new int[MOST_LISTED];

        void clear() {
            used = 1;
            comeOut(0);
        }

        /** The failure that came out last; it is listed when it is asked for. */
        void comeOut(int one) {
            latest = one;
            isListed = false;
        }

        int make(int number, int value, int voice, int place, int cause) {
            int at = used * WIDTH;
            if (at + WIDTH > rows.length) {
                rows = Arrays.copyOf(rows, 2 * rows.length);
            }
            rows[at + NUMBER] = number;
            rows[at + VALUE] = value;
            rows[at + VOICE] = voice;
            rows[at + PLACE] = place;
            rows[at + CAUSE] = cause;
            rows[at + FIRST] = 0;
            rows[at + LAST] = 0;
            rows[at + BEHIND] = 0;
            used++;
            return used - 1;
        }

        /** A failure that went on comes beneath the one that took its place, behind those there. */
        void putBeneath(int upper, int lower) {
            int last = get(upper, LAST);
            if (last == 0) {
                put(upper, FIRST, lower);
            } else {
                put(last, BEHIND, lower);
            }
            put(upper, LAST, lower);
        }

        int number(int one) {
            return get(one, NUMBER);
        }

        int value(int one) {
            return get(one, VALUE);
        }

        int listed() {
            if (!isListed) {
                isListed = true;
                listed = 0;
                visit(latest, 0, FIRST_WAY);
            }
            return listed;
        }

        private void visit(int one, int depth, int way) {
            if (one == 0 || listed >= MOST_LISTED || depth >= MOST_LISTED) {
                return;
            }
            which[listed] = one;
            depths[listed] = depth;
            ways[listed] = way;
            listed++;
            visit(get(one, CAUSE), depth + 1, AS_CAUSE);
            int beneath = get(one, FIRST);
            for (int i = 0; i < MOST_LISTED && beneath != 0; i++) {
                visit(beneath, depth + 1, AS_BENEATH);
                beneath = get(beneath, BEHIND);
            }
        }

        int fact(int i, int what) {
            if (i < 0 || i >= listed || i >= MOST_LISTED) {
                return BAD;
            }
            switch (what) {
                case 4:
                    return depths[i];
                case 5:
                    return ways[i];
                default:
                    return get(which[i], what);
            }
        }

        private int get(int one, int what) {
            int at = one * WIDTH + what;
            return at < 0 || at >= rows.length ? 0 : rows[at];
        }

        private void put(int one, int what, int value) {
            int at = one * WIDTH + what;
            if (at >= 0 && at < rows.length) {
                rows[at] = value;
            }
        }
    }

    /** Pairs of numbers, of which all are counted and the first 300 are kept. */
    private static final class Pairs {
        private static final int MOST_KEPT = 300;

        private int[] numbers = new int[32];
        private int kept;
        private int total;

        void clear() {
            kept = 0;
            total = 0;
        }

        void add(int a, int b) {
            total++;
            if (kept >= MOST_KEPT) {
                return;
            }
            if (2 * kept + 1 >= numbers.length) {
                numbers = Arrays.copyOf(numbers, 2 * numbers.length);
            }
            numbers[2 * kept] = a;
            numbers[2 * kept + 1] = b;
            kept++;
        }

        int total() {
            return total;
        }

        int kept() {
            return kept;
        }

        int get(int i, int what) {
            int at = 2 * i + what;
            return at < 0 || at >= numbers.length ? NONE : numbers[at];
        }

        long mixInto(long h) {
            long mixed = h;
            for (int i = 0; i < 2 * kept && i < numbers.length; i++) {
                mixed = 31 * mixed + numbers[i];
            }
            return mixed;
        }
    }

    /** The voices of a story, who has the turn, and what came of it. */
    private static final class Stage {
        static final int DESK = 0, WAS_OVER = 3;

        private static final int YIELDED = 0, CAME_BACK = 1, FAILED = 2, SPENT = 4, NO_VOICE = 9;
        private static final int MOST_VOICES = 60, MOST_ALIVE = 12, MOST_STEPS = 6000;
        private static final int MOST_ACTS = 200000000, MOST_HANDLERS = 3000;

        final Pairs lines = new Pairs();
        final Pairs handings = new Pairs();
        final Failures failures = new Failures();
        private final Story story;
        private final Code code;
        private final Voice[] voices = new Voice[MOST_VOICES + 1];
        private final int[][] spareRows = new int[MOST_ALIVE][];
        private final int[] ringed = new int[MOST_ALIVE];
        private int spares;
        private int ringSize;
        private int made;
        private int alive;
        private int steps;
        private int turn;
        private int raised;
        private int outcome;
        private int given;
        private boolean isSpent;

        Stage(Story story) {
            this.story = story;
            code = story.code;
            failures.clear();
        }

        void reset() {
            failAll();
            lines.clear();
            handings.clear();
            failures.clear();
            ringSize = 0;
            made = 0;
            alive = 0;
            steps = 0;
            turn = DESK;
            raised = 0;
            outcome = CAME_BACK;
            given = 0;
            isSpent = false;
        }

        int made() {
            return made;
        }

        int alive() {
            return alive;
        }

        int steps() {
            return steps;
        }

        int outcome() {
            return outcome;
        }

        int given() {
            return given;
        }

        boolean isSpent() {
            return isSpent;
        }

        boolean isFull() {
            return made >= MOST_VOICES || alive >= MOST_ALIVE;
        }

        int inRing(int i) {
            return i < 0 || i >= ringSize || i >= MOST_ALIVE ? NONE : ringed[i];
        }

        Voice find(int number) {
            return number < 1 || number > made || number > MOST_VOICES ? null : voices[number];
        }

        /** A voice that is not begun: its number. To be asked for only if the stage is not full. */
        int make(int script, int argument, int maker) {
            if (isFull()) {
                return NONE;
            }
            made++;
            alive++;
            if (voices[made] == null) {
                voices[made] = new Voice();
            }
            voices[made].reset(made, script, argument, maker);
            return made;
        }

        private void end(Voice v, int as) {
            int[] row = v.end(as);
            alive--;
            if (row != null && spares >= 0 && spares < MOST_ALIVE) {
                spareRows[spares] = row;
                spares++;
            }
        }

        private void failAll() {
            for (int i = 1; i <= made; i++) {
                Voice one = find(i);
                if (one != null && !one.isOver()) {
                    end(one, Voice.FAILED);
                }
            }
        }

        void deskResumes(Voice one, int value) {
            one.resumer = DESK;
            give(DESK, one, value);
        }

        void deskInjects(Voice one, int number, int value) {
            throwInto(one, DESK, failures.make(number, value, DESK, NONE, 0));
        }

        void deskCloses(Voice one) {
            outcome = CAME_BACK;
            if (one.state == Voice.NOT_BEGUN) {
                end(one, Voice.CLOSED);
            } else {
                one.isClosing = true;
                throwInto(one, DESK, failures.make(Failures.CLOSE, 0, DESK, NONE, 0));
            }
        }

        /** Marks the voices that somebody reaches: the number of the last voice. */
        int findReached() {
            for (int i = 1; i <= made; i++) {
                Voice one = find(i);
                if (one != null) {
                    one.reached = one.maker == DESK ? Voice.REACHED : Voice.UNREACHED;
                }
            }
            boolean more = true;
            for (int round = 0; round <= MOST_VOICES && more; round++) {
                more = false;
                for (int i = 1; i <= made; i++) {
                    Voice one = find(i);
                    if (one != null && one.reached == Voice.REACHED && !one.isOver()) {
                        one.reached = Voice.LOOKED_INTO;
                        lookInto(one);
                        more = true;
                    }
                }
            }
            return made;
        }

        private void lookInto(Voice one) {
            if (one.state == Voice.NOT_BEGUN) {
                reach(one.argument);
            }
            for (int call = 0; call < one.calls; call++) {
                int frame = one.frameOf(call);
                for (int i = 0; i < one.variablesOf(frame); i++) {
                    reach(one.variable(frame, i));
                }
            }
        }

        private void reach(int number) {
            Voice one = find(number);
            if (one != null && one.reached == Voice.UNREACHED) {
                one.reached = Voice.REACHED;
            }
        }

        /** Until the desk has the turn. */
        void run() {
            for (int i = 0; i < MOST_ACTS && turn != DESK; i++) {
                Voice v = find(turn);
                if (v == null) {
                    turn = DESK;
                } else if (isSpent) {
                    spend(v);
                } else if (raised != 0) {
                    unwind(v);
                } else {
                    int act = code.act(v.pc);
                    int operand = code.argument(v.pc);
                    v.pc++;
                    if (act >= Code.FIRST_OF_GUARDS) {
                        passGuards(v, act, operand);
                    } else if (act >= Code.FIRST_OF_STAGE) {
                        playPart(v, act, operand);
                    } else if (!v.work(act, operand)) {
                        raise(v, Failures.NOUGHT);
                    }
                }
            }
        }

        private void raise(Voice v, int number) {
            raised = failures.make(number, 0, v.number, v.place(), 0);
        }

        private void playPart(Voice v, int act, int operand) {
            switch (act) {
                case Code.STEP:
                    if (step(v)) {
                        v.setPlace(operand);
                    }
                    break;
                case Code.TELL:
                    lines.add(v.number, v.pop());
                    break;
                case Code.STATE_OF:
                    v.push(stateOf(find(v.pop())));
                    break;
                case Code.NEW:
                    makeBy(v, operand);
                    break;
                case Code.CALL:
                    callBy(v, operand);
                    break;
                case Code.YIELD:
                    yieldBy(v, v.pop());
                    break;
                case Code.RESUME:
                    int value = v.pop();
                    resumeBy(v, find(v.pop()), value);
                    break;
                case Code.EACH:
                    resumeBy(v, find(v.peek()), 0);
                    break;
                case Code.INJECT:
                    injectBy(v, operand);
                    break;
                case Code.HAND:
                    handBy(v);
                    break;
                default:
                    closeBy(v, find(v.pop()));
                    break;
            }
        }

        private static int stateOf(Voice one) {
            return one == null ? NO_VOICE : one.state;
        }

        /** A step is taken; false: there is none left. */
        private boolean step(Voice v) {
            if (steps >= MOST_STEPS) {
                isSpent = true;
                return false;
            }
            steps++;
            v.steps++;
            return true;
        }

        private void spend(Voice v) {
            failAll();
            handings.add(v.number, DESK);
            turn = DESK;
            outcome = SPENT;
        }

        private void makeBy(Voice v, int script) {
            int argument = v.pop();
            if (isFull()) {
                raise(v, Failures.MANY);
            } else {
                v.push(make(script, argument, v.number));
            }
        }

        private void callBy(Voice v, int procedure) {
            Body called = story.at(procedure);
            if (called == null || !step(v)) {
                return;
            }
            if (v.canCall()) {
                v.enter(called);
            } else {
                raise(v, Failures.DEEP);
            }
        }

        private void yieldBy(Voice v, int value) {
            if (v.isClosing) {
                raise(v, Failures.MISUSE);
            } else {
                v.state = Voice.AT_YIELD;
                goBack(v, value, YIELDED);
            }
        }

        private void resumeBy(Voice v, Voice one, int value) {
            if (one == null || !one.isReady()) {
                misuse(v, one);
                return;
            }
            v.state = Voice.WAITING;
            one.resumer = v.number;
            give(v.number, one, value);
        }

        private void handBy(Voice v) {
            int value = v.pop();
            Voice one = find(v.pop());
            if (v.isClosing) {
                raise(v, Failures.MISUSE);
            } else if (one == null || !one.isReady()) {
                misuse(v, one);
            } else {
                v.state = Voice.AT_YIELD;
                one.resumer = v.resumer;
                give(v.number, one, value);
            }
        }

        private void injectBy(Voice v, int number) {
            int value = v.pop();
            Voice one = find(v.pop());
            if (one == null || !one.isReady()) {
                misuse(v, one);
                return;
            }
            if (one.state == Voice.AT_YIELD) {
                v.state = Voice.WAITING;
            }
            throwInto(one, v.number, failures.make(number, value, v.number, v.place(), 0));
        }

        private void closeBy(Voice v, Voice one) {
            if (one == null || one.state == Voice.UNDER_WAY || one.state == Voice.WAITING) {
                misuse(v, one);
            } else if (one.state == Voice.NOT_BEGUN) {
                end(one, Voice.CLOSED);
            } else if (one.state == Voice.AT_YIELD) {
                v.state = Voice.WAITING;
                one.isClosing = true;
                throwInto(one, v.number, failures.make(Failures.CLOSE, 0, v.number, v.place(), 0));
            }
        }

        private void misuse(Voice v, Voice one) {
            raise(v, Failures.MISUSE);
            if (one == null || one.isReady() || one.isOver()) {
                return;
            }
            ringSize = 0;
            Voice waits = v;
            for (int i = 0; i < MOST_ALIVE && waits != null; i++) {
                ringed[i] = waits.number;
                ringSize = i + 1;
                waits = waits == one ? null : find(waits.resumer);
            }
        }

        /** The turn goes to one that begins, or whose yield or hand gives the value. */
        private void give(int from, Voice one, int value) {
            handings.add(from, one.number);
            turn = one.number;
            Body of = story.at(one.script);
            if (one.state == Voice.AT_YIELD) {
                one.push(value);
            } else if (of != null) {
                one.begin(spareRow());
                one.enter(of);
            }
            one.state = Voice.UNDER_WAY;
        }

        private int[] spareRow() {
            if (spares <= 0 || spares > MOST_ALIVE) {
                return null;
            }
            spares--;
            return spareRows[spares];
        }

        private void throwInto(Voice one, int by, int failure) {
            raised = failure;
            if (one.state == Voice.NOT_BEGUN) {
                end(one, Voice.FAILED);
                if (by == DESK) {
                    comeOut();
                }
                return;
            }
            handings.add(by, one.number);
            turn = one.number;
            one.resumer = by;
            one.state = Voice.UNDER_WAY;
        }

        /** The turn goes from a voice to its resumer, with what it yielded or gave back. */
        private void goBack(Voice v, int value, int how) {
            handings.add(v.number, v.resumer);
            turn = v.resumer;
            Voice waits = find(turn);
            if (waits == null) {
                turn = DESK;
                outcome = how;
                // What one gives back while it is closed is no answer to anybody.
                given = v.isClosing ? given : value;
                return;
            }
            waits.state = Voice.UNDER_WAY;
            int act = code.act(waits.pc - 1);
            if (act == Code.EACH && how == CAME_BACK) {
                waits.pop();
                waits.pc = code.argument(waits.pc - 1);
            } else if (act != Code.CLOSE) {
                waits.push(value);
            }
        }

        private void passGuards(Voice v, int act, int operand) {
            switch (act) {
                case Code.TRY:
                    v.openGuard(operand);
                    break;
                case Code.FINALLY:
                    v.finished++;
                    v.turnGuard(Voice.FINISHING, 0, v.pc);
                    break;
                case Code.NO_FINALLY:
                    v.closeGuard();
                    break;
                case Code.END_FINALLY:
                    endFinally(v);
                    break;
                case Code.RETURN:
                    giveBack(v, v.pop());
                    break;
                default:
                    raised = failures.make(operand, v.pop(), v.number, v.place(), v.caught());
                    break;
            }
        }

        private void endFinally(Voice v) {
            int phase = v.phase();
            int kept = v.keptByGuard();
            v.closeGuard();
            if (phase == Voice.FAILING) {
                raised = kept;
            } else if (phase == Voice.RETURNING) {
                giveBack(v, kept);
            }
        }

        private void giveBack(Voice v, int value) {
            for (int i = 0; i < Voice.MOST_GUARDS && v.isGuarded(); i++) {
                int at = v.isInGuarded() ? handlerOf(v.handlers(), Failures.CLOSE) : NONE;
                if (code.act(at) == Code.FINALLY) {
                    v.finished++;
                    v.turnGuard(Voice.RETURNING, value, at + 1);
                    return;
                }
                v.closeGuard();
            }
            if (v.leave()) {
                v.push(value);
            } else {
                end(v, v.isClosing ? Voice.CLOSED : Voice.ENDED);
                goBack(v, value, CAME_BACK);
            }
        }

        /** From a first handler on: the catch that takes a number (none takes CLOSE), or the act behind them all. */
        private int handlerOf(int handlers, int number) {
            int at = handlers;
            for (int i = 0; i < MOST_HANDLERS && code.act(at) == Code.CATCH; i++) {
                int caught = code.argument(at);
                if (number != Failures.CLOSE && (caught == number || caught == Failures.ANY)) {
                    return at;
                }
                at = code.argument(at + 1);
            }
            return at;
        }

        /** The failure that is raised goes outwards by one guard, call or voice. */
        private void unwind(Voice v) {
            if (!v.isGuarded()) {
                if (!v.leave()) {
                    leaveVoice(v);
                }
                return;
            }
            if (!v.isInGuarded()) {
                if (v.phase() == Voice.FAILING) {
                    failures.putBeneath(raised, v.keptByGuard());
                }
                v.closeGuard();
                return;
            }
            int failure = raised;
            int at = handlerOf(v.handlers(), v.phase() == Voice.IN_BLOCK ? failures.number(failure) : Failures.CLOSE);
            if (code.act(at) == Code.CATCH) {
                raised = 0;
                v.turnGuard(Voice.IN_CATCH, failure, at + 2);
                v.push(failures.value(failure));
            } else if (code.act(at) == Code.FINALLY) {
                raised = 0;
                v.finished++;
                v.turnGuard(Voice.FAILING, failure, at + 1);
            } else {
                v.closeGuard();
            }
        }

        private void leaveVoice(Voice v) {
            boolean closed = v.isClosing && failures.number(raised) == Failures.CLOSE;
            end(v, closed ? Voice.CLOSED : Voice.FAILED);
            if (closed) {
                raised = 0;
                goBack(v, 0, CAME_BACK);
                return;
            }
            handings.add(v.number, v.resumer);
            turn = v.resumer;
            Voice waits = find(turn);
            if (waits == null) {
                comeOut();
            } else {
                waits.state = Voice.UNDER_WAY;
            }
        }

        private void comeOut() {
            turn = DESK;
            outcome = FAILED;
            failures.comeOut(raised);
            raised = 0;
        }
    }
}
