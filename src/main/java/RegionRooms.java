import java.util.Arrays;
import java.util.NoSuchElementException;

/** Region memory for a small language of functions. What each call promises stands in DOC.md. */
public final class RegionRooms {
    public static final int NONE = -1;

    private static final int TAPE_MOST = 940;
    private static final int FEED_BYTES = 20;
    private static final int PROGRAM_MOST = 900;
    private static final int SENTENCE_MOST = 200;
    private static final int WORD_LETTERS = 7;
    private static final int NUMBER_DIGITS = 3;

    private static final int FUNS_MOST = 5;
    private static final int LINES_MOST = 24;
    private static final int PARAMETERS_MOST = 3;
    private static final int VARS_MOST = PARAMETERS_MOST + LINES_MOST;
    /** A 'when' has the most: its arguments, its condition, and what is behind 'else'. */
    private static final int OPERANDS_MOST = PARAMETERS_MOST + 2;
    /** A LINE brings one REGION at most. */
    private static final int REGIONS_MOST = LINES_MOST;

    private static final int FRAMES_MOST = 12;
    private static final int CELLS_MOST = 200;
    private static final int STEPS_MOST = 5000;
    private static final int STEPS_OF_A_CALL = 500;
    /** Each FRAME has one ROOM of a REGION at most; those that are OUTER of MAIN come from no FRAME. */
    private static final int ROOMS_MOST = REGIONS_MOST * (FRAMES_MOST + 1);

    private static final int ONES_MOST = 20;
    private static final int ONES_WITHIN = 8;
    /** Between two ONES there is one 'and' or 'or'. */
    private static final int CODE_MOST = 2 * ONES_MOST;

    private static final int UNDO_MOST = 8;
    private static final int IMAGES = 2;
    private static final int SEEDS_MOST = 20;
    private static final int DRAW_OF = 10;

    private static final int FAULT_TOKEN = 1;
    private static final int FAULT_NAME = 3;
    private static final int FAULT_LIMIT = 4;

    private static final int TOKEN_END = 0;
    private static final int TOKEN_BAD = 1;
    private static final int TOKEN_NAME = 2;
    private static final int TOKEN_KEYWORD = 3;
    private static final int TOKEN_NUMBER = 4;
    private static final int TOKEN_SIGN = 5;

    /** In the order of the WORD_ numbers below. */
    private static final String KEYWORDS =
        "fun is pair left right sum less pick call when else or and not finite outer live owned filled cells rooms number ";
    private static final int KEYWORD_COUNT = 22;
    private static final int WORD_FUN = 0;
    private static final int WORD_IS = 1;
    private static final int WORD_PAIR = 2;
    private static final int WORD_LEFT = 3;
    private static final int WORD_RIGHT = 4;
    private static final int WORD_SUM = 5;
    private static final int WORD_LESS = 6;
    private static final int WORD_PICK = 7;
    private static final int WORD_CALL = 8;
    private static final int WORD_WHEN = 9;
    private static final int WORD_ELSE = 10;
    private static final int WORD_OR = 11;
    private static final int WORD_AND = 12;
    private static final int WORD_NOT = 13;
    private static final int WORD_FINITE = 14;
    private static final int WORD_OUTER = 15;
    private static final int WORD_LIVE = 16;
    private static final int WORD_OWNED = 17;
    private static final int WORD_FILLED = 18;
    private static final int WORD_CELLS = 19;
    private static final int WORD_ROOMS = 20;
    private static final int WORD_NUMBER = 21;
    /** An EXPR that has no word of its own: a NUMBER, a VAR. */
    private static final int PLAIN_NUMBER = 22;
    private static final int PLAIN_VAR = 23;

    private static final int IDLE = 0;
    private static final int RUNS = 1;
    private static final int ENDED = 2;
    private static final int STOPPED = 3;

    private static final int NO_VALUE = 0;
    private static final int A_NUMBER = 1;
    private static final int A_PAIR = 2;

    private static final int STOP_SIDE = 1;
    private static final int STOP_PAIR = 2;
    private static final int STOP_FRAMES = 3;
    private static final int STOP_CELLS = 4;
    private static final int STOP_STEPS = 5;

    private static final int RAN_STEPS = 0;
    private static final int RAN_MOST = 1;
    private static final int RAN_CELLS = 2;
    private static final int RAN_LAID = 3;
    private static final int RAN_WHY = 4;
    private static final int RAN_GAVE = 5;
    private static final int RAN_NUMBER = 6;
    private static final int RAN_DRAG = 7;
    private static final int RAN_COUNT = 8;

    private final byte[] tape = new byte[TAPE_MOST];
    private int tapeLength = 0;
    private final ProgramReader programReader = new ProgramReader();
    private final SentenceReader sentenceReader = new SentenceReader();
    private final RegionFinder finder = new RegionFinder();
    private int faultKind = 0;
    private final Whole own = new Whole();
    /** The one for run() and odds(), so that the own one stays as it is. */
    private final Machine other = new Machine();
    private final Judge judge = new Judge();
    private final History history = new History();
    private final Whole[] images = new Whole[IMAGES];
    private final int[] ranRows = new int[RAN_COUNT];
    private boolean ranOnce = false;

    public RegionRooms() {
    }

    public int feed(int a, int b, int c, int d, int e) {
        if (tapeLength + FEED_BYTES > TAPE_MOST) {
            return NONE;
        }
        putBytes(a);
        putBytes(b);
        putBytes(c);
        putBytes(d);
        putBytes(e);
        return tapeLength;
    }

    public boolean end(int n) {
        if (n < 0 || n > tapeLength) {
            return false;
        }
        tapeLength = n;
        return true;
    }

    public int program() {
        boolean good = programReader.readsAll(tape, takeTape());
        faultKind = programReader.text.faultKind;
        if (!good) {
            return -1 - programReader.text.faultPlace;
        }
        Program made = programReader.made;
        finder.findAll(made);
        made.regions.derive(made);
        own.program.copyFrom(made);
        own.machine.clear();
        own.sentence.clear();
        history.clear();
        return made.funs + made.lines;
    }

    public int fault() {
        return faultKind;
    }

    public int fun(int f, int what) throws NoSuchElementException {
        Program p = own.program;
        if (!p.hasFun(f)) {
            throw new NoSuchElementException();
        }
        switch (what) {
            case 0:
                return p.parameters[f];
            case 1:
                return p.lineCount[f];
            case 2:
                return p.calledBy(f);
            case 3:
                return p.regions.outer[f];
            case 4:
                return p.regions.owns[f];
            case 5:
                return p.endsWithLeavingCall(f) ? 1 : 0;
            default:
                throw new NoSuchElementException();
        }
    }

    public int points(int f, int v) {
        return own.program.hasVar(f, v) ? own.program.regions.pointedBy(f, v) : NONE;
    }

    public int region(int r, int what) {
        Regions regions = own.program.regions;
        if (!regions.has(r)) {
            return NONE;
        }
        switch (what) {
            case 0:
                return regions.left[r];
            case 1:
                return regions.right[r];
            case 2:
                return regions.ownedBy[r];
            case 3:
                return regions.filledBy[r];
            case 4:
                return regions.isFinite(r) ? 1 : 0;
            case 5:
                return own.machine.roomsOf(r);
            case 6:
                return own.machine.cellsOf(r);
            default:
                return NONE;
        }
    }

    public int span(int f, int r, int what) {
        Regions regions = own.program.regions;
        if (!own.program.hasFun(f) || !regions.has(r) || !regions.isOwned(f, r)) {
            return NONE;
        }
        switch (what) {
            case 0:
                return regions.spanFirst[f * REGIONS_MOST + r];
            case 1:
                return regions.spanLast[f * REGIONS_MOST + r];
            default:
                return NONE;
        }
    }

    public boolean load() {
        if (!fitsMain(takeTape())) {
            return false;
        }
        history.keep(own.machine);
        beginWithTape(own.machine);
        return true;
    }

    public int steps(int n) {
        if (n < 1 || n > STEPS_OF_A_CALL) {
            return NONE;
        }
        if (own.machine.state != RUNS) {
            return 0;
        }
        history.keep(own.machine);
        int made = 0;
        for (int i = 0; i < n && own.machine.state == RUNS; i++) {
            own.machine.makeStep(own.program);
            made++;
        }
        return made;
    }

    public int now(int what) {
        Machine m = own.machine;
        switch (what) {
            case 0:
                return m.state;
            case 1:
                return m.why;
            case 2:
                return m.frames;
            case 3:
                return m.latestFun();
            case 4:
                return m.latestLine();
            case 5:
                return m.cells;
            case 6:
                return m.rooms;
            case 7:
                return m.most;
            case 8:
                return m.stepCount;
            case 9:
                return m.laid;
            case 10:
                return m.leftAhead;
            default:
                return NONE;
        }
    }

    public int kind(int k, int v) {
        return own.machine.hasVar(own.program, k, v) ? own.machine.varKind[k * VARS_MOST + v] : NONE;
    }

    public int value(int k, int v) throws NoSuchElementException {
        if (!own.machine.hasVar(own.program, k, v) || own.machine.varKind[k * VARS_MOST + v] == NO_VALUE) {
            throw new NoSuchElementException();
        }
        return own.machine.varValue[k * VARS_MOST + v];
    }

    public int cell(int c, int what) {
        if (!own.machine.hasCell(c)) {
            return NONE;
        }
        switch (what) {
            case 0:
                return own.machine.regionOfCell(c);
            case 1:
                return own.machine.sideKind[2 * c];
            case 2:
                return own.machine.sideKind[2 * c + 1];
            default:
                return NONE;
        }
    }

    public int in(int c, int side) throws NoSuchElementException {
        if (!own.machine.hasCell(c) || side < 0 || side > 1) {
            throw new NoSuchElementException();
        }
        return own.machine.sideValue[2 * c + side];
    }

    public int gave() {
        return own.machine.resultKind();
    }

    public int result() throws NoSuchElementException {
        if (own.machine.state != ENDED) {
            throw new NoSuchElementException();
        }
        return own.machine.givenValue;
    }

    public int room(int k) {
        return own.machine.hasRoom(k) ? own.machine.roomRegion[k] : NONE;
    }

    public int roomful(int k) {
        return own.machine.hasRoom(k) ? own.machine.cellsIn(k) : NONE;
    }

    public int reached() {
        return judge.countReached(own.program, own.machine);
    }

    public int isReached(int c) {
        if (!own.machine.hasCell(c)) {
            return NONE;
        }
        judge.countReached(own.program, own.machine);
        return judge.seen[c] ? 1 : 0;
    }

    public int drag() {
        return own.machine.cells - judge.countReached(own.program, own.machine);
    }

    public int run() {
        if (!fitsMain(takeTape())) {
            return NONE;
        }
        beginWithTape(other);
        int worst = 0;
        for (int i = 0; i <= STEPS_MOST && other.state == RUNS; i++) {
            other.makeStep(own.program);
            // Judging is dear: DRAG grows only where VALUES are lost, and is never above CELLS.
            if (other.lost && other.cells > worst) {
                worst = Math.max(worst, other.cells - judge.countReached(own.program, other));
            }
        }
        tellRan(worst);
        return other.state;
    }

    public int ran(int what) {
        return ranOnce && what >= 0 && what < RAN_COUNT ? ranRows[what] : NONE;
    }

    public int odds(int n, int seed) {
        if (n < 1 || n > SEEDS_MOST || own.program.funs == 0) {
            return NONE;
        }
        int ends = 0;
        for (int i = 0; i < n; i++) {
            if (endsByDraws(seed + i)) {
                ends++;
            }
        }
        return ends;
    }

    public int undo() {
        return history.takeBack(own.machine);
    }

    public int sentence() {
        boolean good = sentenceReader.readsAll(tape, takeTape(), own.program);
        faultKind = sentenceReader.text.faultKind;
        if (!good) {
            return -1 - sentenceReader.text.faultPlace;
        }
        own.sentence.copyFrom(sentenceReader.made);
        return own.sentence.ones;
    }

    public int said(int k) {
        if (!own.sentence.told || k < NONE) {
            return NONE;
        }
        int found = 0;
        for (int r = 0; r < own.program.regions.size; r++) {
            if (own.sentence.holds(r, own.program, own.machine)) {
                if (found == k) {
                    return r;
                }
                found++;
            }
        }
        return k == NONE ? found : NONE;
    }

    public boolean image(int k) {
        if (k < 0 || k >= IMAGES) {
            return false;
        }
        if (images[k] == null) {
            images[k] = new Whole();
        }
        images[k].copyFrom(own);
        return true;
    }

    public boolean restore(int k) {
        if (k < 0 || k >= IMAGES || images[k] == null) {
            return false;
        }
        own.copyFrom(images[k]);
        history.clear();
        return true;
    }

    public int count(int what) {
        switch (what) {
            case 0:
                return own.program.funs;
            case 1:
                return own.program.lines;
            case 2:
                return own.program.regions.size;
            case 3:
                return Integer.bitCount(own.program.regions.finite);
            case 4:
                return tapeLength;
            default:
                return NONE;
        }
    }

    private void putBytes(int number) {
        for (int shift = 24; shift >= 0; shift -= 8) {
            tape[tapeLength] = (byte) (number >>> shift);
            tapeLength++;
        }
    }

    /** How many bytes there were; they still lie in the row, for the one who reads them at once. */
    private int takeTape() {
        int taken = tapeLength;
        tapeLength = 0;
        return taken;
    }

    private boolean fitsMain(int numbers) {
        Program p = own.program;
        return p.funs > 0 && numbers == p.parameters[p.funs - 1];
    }

    private void beginWithTape(Machine m) {
        m.begin(own.program);
        int parameters = own.program.parametersOfMain();
        for (int i = 0; i < parameters; i++) {
            m.setVar(0, i, A_NUMBER, tape[i] & 255);
        }
    }

    private boolean endsByDraws(int seed) {
        other.begin(own.program);
        int parameters = own.program.parametersOfMain();
        int x = seed;
        for (int i = 0; i < parameters; i++) {
            x = x * 1103515245 + 12345;
            other.setVar(0, i, A_NUMBER, (x >>> 8) % DRAW_OF);
        }
        for (int i = 0; i <= STEPS_MOST && other.state == RUNS; i++) {
            other.makeStep(own.program);
        }
        return other.state == ENDED;
    }

    private void tellRan(int worstDrag) {
        ranOnce = true;
        ranRows[RAN_STEPS] = other.stepCount;
        ranRows[RAN_MOST] = other.most;
        ranRows[RAN_CELLS] = other.cells;
        ranRows[RAN_LAID] = other.laid;
        ranRows[RAN_WHY] = other.why;
        ranRows[RAN_GAVE] = other.resultKind();
        ranRows[RAN_NUMBER] = other.resultKind() == A_NUMBER ? other.givenValue : 0;
        ranRows[RAN_DRAG] = worstDrag;
    }

    /** A text as TOKENS, taken one by one; it keeps the first FAULT that a reader tells. */
    private static final class Tokens {
        private final int bytesMost;
        private final long[] keywords = new long[KEYWORD_COUNT];
        private final int[] kinds;
        private final int[] places;
        /** Which keyword, number or sign it is; of another WORD its letters, as one number. */
        private final long[] contents;
        private int length = 0;
        private int next = 0;
        private int size = 0;
        private int at = NONE;
        /** The TOKEN that is looked at: its kind, its place, and what it is (NONE, if it is no such one). */
        int token = TOKEN_END;
        int place = 0;
        int keyword = NONE;
        int number = NONE;
        int sign = NONE;
        long word = NONE;
        int faultKind = 0;
        int faultPlace = 0;

        /** A TOKEN has a byte at least, and there is one for the end. */
        Tokens(int most) {
            bytesMost = Math.max(most, 0);
            kinds = new int[bytesMost + 1];
            places = new int[bytesMost + 1];
            contents = new long[bytesMost + 1];
            int told = 0;
            long letters = 0;
            for (int i = 0; i < KEYWORDS.length() && told < KEYWORD_COUNT; i++) {
                if (KEYWORDS.charAt(i) == ' ') {
                    keywords[told] = letters;
                    told++;
                    letters = 0;
                } else {
                    letters = withLetter(letters, KEYWORDS.charAt(i));
                }
            }
        }

        void open(byte[] bytes, int howMany) {
            length = Math.min(howMany, bytes.length);
            int limit = Math.min(length, bytesMost);
            faultKind = 0;
            faultPlace = 0;
            size = 0;
            next = 0;
            for (int i = 0; i < limit && next < limit; i++) {
                readPiece(bytes);
            }
            put(length > limit ? TOKEN_BAD : TOKEN_END, limit, NONE);
            at = NONE;
            advance();
        }

        private void readPiece(byte[] bytes) {
            int c = bytes[next];
            if (isLetter(c) || isDigit(c)) {
                readLettersAndDigits(bytes);
                return;
            }
            if (c != 32 && c != 10) {
                boolean known = c == ';' || c == '<' || c == '=' || c == '>' || c == '(' || c == ')';
                put(known ? TOKEN_SIGN : TOKEN_BAD, next, c);
            }
            next++;
        }

        /** Ahead of the limit it begins, but it may end behind it. */
        private void readLettersAndDigits(byte[] bytes) {
            int from = next;
            int digits = 0;
            long letters = 0;
            int sum = 0;
            for (; next < length && (isLetter(bytes[next]) || isDigit(bytes[next])); next++) {
                if (isDigit(bytes[next])) {
                    digits++;
                    sum = sum * 10 + (bytes[next] - '0');
                } else {
                    letters = withLetter(letters, bytes[next]);
                }
            }
            if (digits == 0 && next - from <= WORD_LETTERS) {
                int known = keywordOf(letters);
                put(known == NONE ? TOKEN_NAME : TOKEN_KEYWORD, from, known == NONE ? letters : known);
            } else if (digits == next - from && digits <= NUMBER_DIGITS) {
                put(TOKEN_NUMBER, from, sum);
            } else {
                put(TOKEN_BAD, from, NONE);
            }
        }

        private void put(int kindOfIt, int placeOfIt, long content) {
            if (size <= bytesMost) {
                kinds[size] = kindOfIt;
                places[size] = placeOfIt;
                contents[size] = content;
                size++;
            }
        }

        private int keywordOf(long letters) {
            for (int i = 0; i < KEYWORD_COUNT; i++) {
                if (keywords[i] == letters) {
                    return i;
                }
            }
            return NONE;
        }

        /** Seven letters fit, and two words never become the same number. */
        private static long withLetter(long letters, int letter) {
            return letters * 27 + (letter - 'a' + 1);
        }

        private static boolean isLetter(int c) {
            return c >= 'a' && c <= 'z';
        }

        private static boolean isDigit(int c) {
            return c >= '0' && c <= '9';
        }

        /** Behind the last TOKEN there is none: it is still looked at. */
        void advance() {
            if (at + 1 >= size) {
                return;
            }
            at++;
            token = kinds[at];
            place = places[at];
            keyword = token == TOKEN_KEYWORD ? (int) contents[at] : NONE;
            number = token == TOKEN_NUMBER ? (int) contents[at] : NONE;
            sign = token == TOKEN_SIGN ? (int) contents[at] : NONE;
            word = token == TOKEN_NAME ? contents[at] : NONE;
        }

        /** Always false, so that a reader can leave with it. */
        boolean failsBy(int kindOfFault) {
            faultKind = kindOfFault;
            faultPlace = place;
            return false;
        }

        boolean takesKeyword(int wanted) {
            if (keyword != wanted) {
                return failsBy(FAULT_TOKEN);
            }
            advance();
            return true;
        }

        boolean takesSign(int wanted) {
            if (sign != wanted) {
                return failsBy(FAULT_TOKEN);
            }
            advance();
            return true;
        }
    }

    private static final class ProgramReader {
        final Program made = new Program();
        final Tokens text = new Tokens(PROGRAM_MOST);
        private final long[] varWords = new long[VARS_MOST];
        private int vars = 0;

        boolean readsAll(byte[] tape, int bytes) {
            made.clear();
            vars = 0;
            text.open(tape, bytes);
            for (int i = 0; i < PROGRAM_MOST && text.token != TOKEN_END; i++) {
                boolean good = text.keyword == WORD_FUN ? readsFun() : readsIs();
                if (!good || !text.takesSign(';')) {
                    return false;
                }
            }
            return !latestFunIsBare() || text.failsBy(FAULT_NAME);
        }

        private boolean latestFunIsBare() {
            return made.funs > 0 && made.lineCount[made.funs - 1] == 0;
        }

        private boolean readsFun() {
            if (latestFunIsBare()) {
                return text.failsBy(FAULT_NAME);
            }
            if (made.funs >= FUNS_MOST) {
                return text.failsBy(FAULT_LIMIT);
            }
            text.advance();
            if (text.token != TOKEN_NAME) {
                return text.failsBy(FAULT_TOKEN);
            }
            if (made.funOf(text.word) != NONE) {
                return text.failsBy(FAULT_NAME);
            }
            made.openFun(text.word);
            vars = 0;
            text.advance();
            return readsParameters();
        }

        private boolean readsParameters() {
            for (int i = 0; i <= PARAMETERS_MOST && text.token == TOKEN_NAME; i++) {
                if (varOf(text.word) != NONE) {
                    return text.failsBy(FAULT_NAME);
                }
                if (i == PARAMETERS_MOST) {
                    return text.failsBy(FAULT_LIMIT);
                }
                addVar(text.word);
                made.parameters[made.funs - 1]++;
                text.advance();
            }
            return true;
        }

        private boolean readsIs() {
            if (text.token != TOKEN_NAME) {
                return text.failsBy(FAULT_TOKEN);
            }
            if (varOf(text.word) != NONE) {
                return text.failsBy(FAULT_NAME);
            }
            if (made.funs == 0 || made.lines >= LINES_MOST) {
                return text.failsBy(FAULT_LIMIT);
            }
            long x = text.word;
            text.advance();
            if (!text.takesKeyword(WORD_IS) || !readsExpr(made.lines)) {
                return false;
            }
            addVar(x);
            made.closeLine();
            return true;
        }

        private boolean readsExpr(int line) {
            if (text.token == TOKEN_NUMBER) {
                made.expr[line] = PLAIN_NUMBER;
                made.operand[line * OPERANDS_MOST] = text.number;
                text.advance();
                return true;
            }
            if (text.token == TOKEN_NAME) {
                made.expr[line] = PLAIN_VAR;
                return takesVars(line, 0, 1);
            }
            if (text.keyword < WORD_PAIR || text.keyword > WORD_WHEN) {
                return text.failsBy(FAULT_TOKEN);
            }
            made.expr[line] = text.keyword;
            text.advance();
            switch (made.expr[line]) {
                case WORD_LEFT:
                case WORD_RIGHT:
                    return takesVars(line, 0, 1);
                case WORD_PICK:
                    return takesVars(line, 0, 3);
                case WORD_CALL:
                    return takesFun(line) && takesVars(line, 0, made.argumentCount(line));
                case WORD_WHEN:
                    return readsWhen(line);
                default:
                    return takesVars(line, 0, 2);
            }
        }

        /** The condition is told first, but is kept behind the arguments. */
        private boolean readsWhen(int line) {
            if (!takesVars(line, 0, 1)) {
                return false;
            }
            int condition = made.operand[line * OPERANDS_MOST];
            if (!takesFun(line)) {
                return false;
            }
            int arguments = made.argumentCount(line);
            made.operand[line * OPERANDS_MOST + arguments] = condition;
            if (!takesVars(line, 0, arguments) || !text.takesKeyword(WORD_ELSE)) {
                return false;
            }
            return takesVars(line, arguments + 1, 1);
        }

        private boolean takesFun(int line) {
            if (text.token != TOKEN_NAME) {
                return text.failsBy(FAULT_TOKEN);
            }
            int called = made.funOf(text.word);
            if (called == NONE) {
                return text.failsBy(FAULT_NAME);
            }
            made.callee[line] = called;
            text.advance();
            return true;
        }

        private boolean takesVars(int line, int from, int howMany) {
            for (int i = from; i < from + howMany; i++) {
                if (text.token != TOKEN_NAME) {
                    return text.failsBy(FAULT_TOKEN);
                }
                int v = varOf(text.word);
                if (v == NONE) {
                    return text.failsBy(FAULT_NAME);
                }
                made.operand[line * OPERANDS_MOST + i] = v;
                text.advance();
            }
            return true;
        }

        private int varOf(long letters) {
            for (int v = 0; v < vars; v++) {
                if (varWords[v] == letters) {
                    return v;
                }
            }
            return NONE;
        }

        private void addVar(long letters) {
            if (vars < VARS_MOST) {
                varWords[vars] = letters;
                vars++;
            }
        }
    }

    private static final class SentenceReader {
        final Sentence made = new Sentence();
        final Tokens text = new Tokens(SENTENCE_MOST);

        boolean readsAll(byte[] tape, int bytes, Program p) {
            made.clear();
            text.open(tape, bytes);
            if (!readsCond(p, 0)) {
                return false;
            }
            made.told = text.token == TOKEN_END;
            return made.told || text.failsBy(FAULT_TOKEN);
        }

        private boolean readsCond(Program p, int within) {
            if (!readsParts(p, within)) {
                return false;
            }
            for (int i = 0; i < ONES_MOST && text.keyword == WORD_OR; i++) {
                text.advance();
                if (!readsParts(p, within)) {
                    return false;
                }
                made.put(WORD_OR, NONE, NONE);
            }
            return true;
        }

        private boolean readsParts(Program p, int within) {
            if (!readsOne(p, within)) {
                return false;
            }
            for (int i = 0; i < ONES_MOST && text.keyword == WORD_AND; i++) {
                text.advance();
                if (!readsOne(p, within)) {
                    return false;
                }
                made.put(WORD_AND, NONE, NONE);
            }
            return true;
        }

        /** How many ONES this one is within is carried along; it refuses to go deeper than told. */
        private boolean readsOne(Program p, int within) {
            boolean bracket = text.sign == '(';
            int first = text.keyword;
            if (!bracket && (first < WORD_NOT || first > WORD_NUMBER)) {
                return text.failsBy(FAULT_TOKEN);
            }
            if (made.ones >= ONES_MOST || within >= ONES_WITHIN) {
                return text.failsBy(FAULT_LIMIT);
            }
            made.ones++;
            text.advance();
            if (bracket) {
                return readsCond(p, within + 1) && text.takesSign(')');
            }
            switch (first) {
                case WORD_NOT:
                    return readsOne(p, within + 1) && made.put(WORD_NOT, NONE, NONE);
                case WORD_OWNED:
                case WORD_FILLED:
                    return readsFunOf(p, first);
                case WORD_CELLS:
                case WORD_ROOMS:
                case WORD_NUMBER:
                    return readsMeasure(first);
                default:
                    return made.put(first, NONE, NONE);
            }
        }

        private boolean readsFunOf(Program p, int first) {
            if (text.token != TOKEN_NAME) {
                return text.failsBy(FAULT_TOKEN);
            }
            int f = p.funOf(text.word);
            if (f == NONE) {
                return text.failsBy(FAULT_NAME);
            }
            text.advance();
            return made.put(first, NONE, f);
        }

        private boolean readsMeasure(int first) {
            int how = text.sign;
            if (how != '<' && how != '=' && how != '>') {
                return text.failsBy(FAULT_TOKEN);
            }
            text.advance();
            if (text.token != TOKEN_NUMBER) {
                return text.failsBy(FAULT_TOKEN);
            }
            int against = text.number;
            text.advance();
            return made.put(first, how, against);
        }
    }

    /** The LINES of all FUNS stand one behind another; a VAR of an EXPR is kept by its number. */
    private static final class Program {
        int funs = 0;
        int lines = 0;
        final long[] name = new long[FUNS_MOST];
        final int[] parameters = new int[FUNS_MOST];
        final int[] firstLine = new int[FUNS_MOST];
        final int[] lineCount = new int[FUNS_MOST];
        final int[] expr = new int[LINES_MOST];
        final int[] callee = new int[LINES_MOST];
        final int[] operand = new int[LINES_MOST * OPERANDS_MOST];
        final Regions regions = new Regions();

        void clear() {
            funs = 0;
            lines = 0;
        }

        void copyFrom(Program from) {
            funs = from.funs;
            lines = from.lines;
            System.arraycopy(from.name, 0, name, 0, name.length);
            System.arraycopy(from.parameters, 0, parameters, 0, parameters.length);
            System.arraycopy(from.firstLine, 0, firstLine, 0, firstLine.length);
            System.arraycopy(from.lineCount, 0, lineCount, 0, lineCount.length);
            System.arraycopy(from.expr, 0, expr, 0, expr.length);
            System.arraycopy(from.callee, 0, callee, 0, callee.length);
            System.arraycopy(from.operand, 0, operand, 0, operand.length);
            regions.copyFrom(from.regions);
        }

        void openFun(long letters) {
            name[funs] = letters;
            parameters[funs] = 0;
            firstLine[funs] = lines;
            lineCount[funs] = 0;
            funs++;
        }

        void closeLine() {
            lineCount[funs - 1]++;
            lines++;
        }

        int funOf(long letters) {
            for (int f = 0; f < funs; f++) {
                if (name[f] == letters) {
                    return f;
                }
            }
            return NONE;
        }

        boolean hasFun(int f) {
            return f >= 0 && f < funs;
        }

        boolean hasVar(int f, int v) {
            return hasFun(f) && v >= 0 && v < varCount(f);
        }

        int varCount(int f) {
            return parameters[f] + lineCount[f];
        }

        int parametersOfMain() {
            return funs > 0 ? parameters[funs - 1] : 0;
        }

        /** The VAR that a LINE tells. */
        int varOfLine(int f, int line) {
            return parameters[f] + line - firstLine[f];
        }

        int resultOf(int f) {
            return varCount(f) - 1;
        }

        boolean isCall(int line) {
            return expr[line] == WORD_CALL || expr[line] == WORD_WHEN;
        }

        int argumentCount(int line) {
            return parameters[callee[line]];
        }

        int operandCount(int line) {
            switch (expr[line]) {
                case PLAIN_NUMBER:
                    return 0;
                case PLAIN_VAR:
                case WORD_LEFT:
                case WORD_RIGHT:
                    return 1;
                case WORD_PICK:
                    return 3;
                case WORD_CALL:
                    return argumentCount(line);
                case WORD_WHEN:
                    return argumentCount(line) + 2;
                default:
                    return 2;
            }
        }

        int conditionSlot(int line) {
            return argumentCount(line);
        }

        int elseSlot(int line) {
            return argumentCount(line) + 1;
        }

        int operandAt(int line, int slot) {
            return operand[line * OPERANDS_MOST + slot];
        }

        int calledBy(int f) {
            int bits = 0;
            for (int line = firstLine[f]; line < firstLine[f] + lineCount[f]; line++) {
                if (isCall(line)) {
                    bits |= 1 << callee[line];
                }
            }
            return bits;
        }

        /** Whether a FRAME that calls by this LINE is LEFT. */
        boolean leavesBy(int f, int line) {
            return line == firstLine[f] + lineCount[f] - 1 && regions.ends[line] == 0;
        }

        boolean endsWithLeavingCall(int f) {
            int last = firstLine[f] + lineCount[f] - 1;
            return last >= 0 && isCall(last) && leavesBy(f, last);
        }
    }

    /** What is known of REGIONS ahead of any run; sets of FUNS and of REGIONS are bits. */
    private static final class Regions {
        int size = 0;
        int finite = 0;
        final int[] points = new int[FUNS_MOST * VARS_MOST];
        final int[] varReach = new int[FUNS_MOST * VARS_MOST];
        final int[] left = new int[REGIONS_MOST];
        final int[] right = new int[REGIONS_MOST];
        final int[] reach = new int[REGIONS_MOST];
        final int[] ownedBy = new int[REGIONS_MOST];
        final int[] filledBy = new int[REGIONS_MOST];
        final int[] outer = new int[FUNS_MOST];
        final int[] owns = new int[FUNS_MOST];
        final int[] spanFirst = new int[FUNS_MOST * REGIONS_MOST];
        final int[] spanLast = new int[FUNS_MOST * REGIONS_MOST];
        /** REGIONS whose SPAN begins, ends with a LINE. */
        final int[] begins = new int[LINES_MOST];
        final int[] ends = new int[LINES_MOST];

        void copyFrom(Regions from) {
            size = from.size;
            finite = from.finite;
            System.arraycopy(from.points, 0, points, 0, points.length);
            System.arraycopy(from.varReach, 0, varReach, 0, varReach.length);
            System.arraycopy(from.left, 0, left, 0, left.length);
            System.arraycopy(from.right, 0, right, 0, right.length);
            System.arraycopy(from.reach, 0, reach, 0, reach.length);
            System.arraycopy(from.ownedBy, 0, ownedBy, 0, ownedBy.length);
            System.arraycopy(from.filledBy, 0, filledBy, 0, filledBy.length);
            System.arraycopy(from.outer, 0, outer, 0, outer.length);
            System.arraycopy(from.owns, 0, owns, 0, owns.length);
            System.arraycopy(from.spanFirst, 0, spanFirst, 0, spanFirst.length);
            System.arraycopy(from.spanLast, 0, spanLast, 0, spanLast.length);
            System.arraycopy(from.begins, 0, begins, 0, begins.length);
            System.arraycopy(from.ends, 0, ends, 0, ends.length);
        }

        boolean has(int r) {
            return r >= 0 && r < size;
        }

        int pointedBy(int f, int v) {
            return points[f * VARS_MOST + v];
        }

        boolean isOwned(int f, int r) {
            return (owns[f] >> r & 1) != 0;
        }

        boolean isFinite(int r) {
            return (finite >> r & 1) != 0;
        }

        int reachOf(int r) {
            return has(r) ? reach[r] : 0;
        }

        int reachOfVar(int f, int v) {
            return varReach[f * VARS_MOST + v];
        }

        /** From what points to what, all the rest. */
        void derive(Program p) {
            closeReach();
            Arrays.fill(ownedBy, 0);
            Arrays.fill(filledBy, 0);
            Arrays.fill(begins, 0);
            Arrays.fill(ends, 0);
            for (int f = 0; f < p.funs; f++) {
                tellOwner(p, f);
                tellFilled(p, f);
                for (int r = 0; r < size; r++) {
                    if (isOwned(f, r)) {
                        ownedBy[r] |= 1 << f;
                        tellSpan(p, f, r);
                    }
                }
            }
            tellFinite(p);
        }

        private void closeReach() {
            for (int r = 0; r < size; r++) {
                reach[r] = 1 << r;
            }
            for (int round = 0; round < size; round++) {
                for (int r = 0; r < size; r++) {
                    reach[r] |= reachOf(left[r]) | reachOf(right[r]);
                }
            }
        }

        private void tellOwner(Program p, int f) {
            int all = 0;
            int outside = 0;
            for (int v = 0; v < p.varCount(f); v++) {
                int bits = reachOf(pointedBy(f, v));
                varReach[f * VARS_MOST + v] = bits;
                all |= bits;
                if (v < p.parameters[f] || v == p.resultOf(f)) {
                    outside |= bits;
                }
            }
            outer[f] = outside;
            owns[f] = all & ~outside;
        }

        private void tellFilled(Program p, int f) {
            for (int line = p.firstLine[f]; line < p.firstLine[f] + p.lineCount[f]; line++) {
                int r = pointedBy(f, p.varOfLine(f, line));
                if (p.expr[line] == WORD_PAIR && has(r)) {
                    filledBy[r] |= 1 << f;
                }
            }
        }

        private void tellSpan(Program p, int f, int r) {
            int first = NONE;
            int last = NONE;
            for (int line = p.firstLine[f]; line < p.firstLine[f] + p.lineCount[f]; line++) {
                if ((reachOfLine(p, f, line) >> r & 1) != 0) {
                    first = first == NONE ? line : first;
                    last = line;
                }
            }
            if (first == NONE) {
                return;
            }
            begins[first] |= 1 << r;
            ends[last] |= 1 << r;
            spanFirst[f * REGIONS_MOST + r] = first - p.firstLine[f];
            spanLast[f * REGIONS_MOST + r] = last - p.firstLine[f];
        }

        private int reachOfLine(Program p, int f, int line) {
            int bits = reachOfVar(f, p.varOfLine(f, line));
            for (int slot = 0; slot < p.operandCount(line); slot++) {
                bits |= reachOfVar(f, p.operandAt(line, slot));
            }
            return bits;
        }

        private void tellFinite(Program p) {
            finite = 0;
            for (int r = 0; r < size; r++) {
                boolean outside = p.funs > 0 && (outer[p.funs - 1] >> r & 1) != 0;
                boolean byOne = Integer.bitCount(filledBy[r]) == 1;
                if (!outside && byOne && (filledBy[r] & ownedBy[r]) != 0) {
                    finite |= 1 << r;
                }
            }
        }
    }

    /** Joins what must be the same. A node is a VAR, or a side of a REGION; joined ones have one root. */
    private static final class RegionFinder {
        private static final int VAR_NODES = FUNS_MOST * VARS_MOST;
        private static final int NODES = VAR_NODES + 2 * REGIONS_MOST;
        /** Each deeper join makes two REGIONS one, each deeper numbering gives a number. */
        private static final int DEPTH_MOST = REGIONS_MOST + 1;

        private final int[] parent = new int[NODES];
        /** Of a root: the nodes of its REGION's sides; NONE if it points to none. */
        private final int[] leftNode = new int[NODES];
        private final int[] rightNode = new int[NODES];
        private final int[] numberOf = new int[NODES];
        private int used = VAR_NODES;

        void findAll(Program p) {
            clear();
            for (int f = 0; f < p.funs; f++) {
                for (int line = p.firstLine[f]; line < p.firstLine[f] + p.lineCount[f]; line++) {
                    joinLine(p, f, line);
                }
            }
            numberAll(p);
            tellAll(p);
        }

        private void clear() {
            used = VAR_NODES;
            for (int node = 0; node < NODES; node++) {
                parent[node] = node;
            }
            Arrays.fill(leftNode, NONE);
            Arrays.fill(rightNode, NONE);
            Arrays.fill(numberOf, NONE);
        }

        private static int nodeOf(int f, int v) {
            return f * VARS_MOST + v;
        }

        private static int operandNode(Program p, int f, int line, int slot) {
            return nodeOf(f, p.operandAt(line, slot));
        }

        private int rootOf(int node) {
            int root = node;
            for (int i = 0; i < NODES && parent[root] != root; i++) {
                root = parent[root];
            }
            return root;
        }

        private void joinLine(Program p, int f, int line) {
            int x = nodeOf(f, p.varOfLine(f, line));
            switch (p.expr[line]) {
                case PLAIN_VAR:
                    join(x, operandNode(p, f, line, 0), 0);
                    break;
                case WORD_PAIR:
                    join(leftOf(x), operandNode(p, f, line, 0), 0);
                    join(rightOf(x), operandNode(p, f, line, 1), 0);
                    break;
                case WORD_LEFT:
                    join(leftOf(operandNode(p, f, line, 0)), x, 0);
                    break;
                case WORD_RIGHT:
                    join(rightOf(operandNode(p, f, line, 0)), x, 0);
                    break;
                case WORD_PICK:
                    join(x, operandNode(p, f, line, 1), 0);
                    join(x, operandNode(p, f, line, 2), 0);
                    break;
                case WORD_CALL:
                    joinCall(p, f, line, x);
                    break;
                case WORD_WHEN:
                    joinCall(p, f, line, x);
                    join(x, operandNode(p, f, line, p.elseSlot(line)), 0);
                    break;
                default:
                    break;
            }
        }

        private void joinCall(Program p, int f, int line, int x) {
            int called = p.callee[line];
            for (int i = 0; i < p.parameters[called]; i++) {
                join(nodeOf(called, i), operandNode(p, f, line, i), 0);
            }
            join(nodeOf(called, p.resultOf(called)), x, 0);
        }

        private int leftOf(int node) {
            return leftNode[rootWithRegion(node)];
        }

        private int rightOf(int node) {
            return rightNode[rootWithRegion(node)];
        }

        private int rootWithRegion(int node) {
            int root = rootOf(node);
            if (leftNode[root] == NONE && used + 2 <= NODES) {
                leftNode[root] = used;
                rightNode[root] = used + 1;
                used += 2;
            }
            return root;
        }

        private void join(int a, int b, int depth) {
            if (a == NONE || b == NONE) {
                return;
            }
            int kept = rootOf(a);
            int gone = rootOf(b);
            if (kept == gone || depth > DEPTH_MOST) {
                return;
            }
            parent[gone] = kept;
            int left = leftNode[gone];
            int right = rightNode[gone];
            if (leftNode[kept] == NONE) {
                leftNode[kept] = left;
                rightNode[kept] = right;
            } else if (left != NONE) {
                int keptRight = rightNode[kept];
                join(leftNode[kept], left, depth + 1);
                join(keptRight, right, depth + 1);
            }
        }

        private void numberAll(Program p) {
            p.regions.size = 0;
            for (int f = 0; f < p.funs; f++) {
                for (int v = 0; v < p.varCount(f); v++) {
                    numberFrom(nodeOf(f, v), p.regions, 0);
                }
            }
        }

        private void numberFrom(int node, Regions found, int depth) {
            int root = rootOf(node);
            if (leftNode[root] == NONE || numberOf[root] != NONE) {
                return;
            }
            if (depth > DEPTH_MOST || found.size >= REGIONS_MOST) {
                return;
            }
            numberOf[root] = found.size;
            found.size++;
            numberFrom(leftNode[root], found, depth + 1);
            numberFrom(rightNode[root], found, depth + 1);
        }

        private void tellAll(Program p) {
            for (int f = 0; f < p.funs; f++) {
                for (int v = 0; v < p.varCount(f); v++) {
                    p.regions.points[nodeOf(f, v)] = numberOf[rootOf(nodeOf(f, v))];
                }
            }
            for (int root = 0; root < NODES; root++) {
                int r = numberOf[root];
                if (r != NONE) {
                    p.regions.left[r] = numberOf[rootOf(leftNode[root])];
                    p.regions.right[r] = numberOf[rootOf(rightNode[root])];
                }
            }
        }
    }

    /** FRAMES, ROOMS and CELLS, each in rows of their own; a CELL's sides lie at 2 * c and 2 * c + 1. */
    private static final class Machine {
        /** One more, for the FRAME that comes while the one that calls is still there. */
        private static final int FRAME_ROWS = FRAMES_MOST + 1;

        int state = IDLE;
        int why = 0;
        int frames = 0;
        int rooms = 0;
        int cells = 0;
        int most = 0;
        int stepCount = 0;
        int laid = 0;
        int leftAhead = 0;
        /** The VALUE that an x had latest: behind the end it is the RESULT. */
        int givenKind = NO_VALUE;
        int givenValue = 0;
        /** Whether a VAR, or a FRAME with all of them, was lost in the latest STEP. */
        boolean lost = false;
        final int[] frameFun = new int[FRAME_ROWS];
        final int[] frameLine = new int[FRAME_ROWS];
        final int[] varKind = new int[FRAME_ROWS * VARS_MOST];
        final int[] varValue = new int[FRAME_ROWS * VARS_MOST];
        final int[] roomRegion = new int[ROOMS_MOST];
        /** Which ROOM a CELL lies in; NONE: there is no such CELL. */
        final int[] cellRoom = new int[CELLS_MOST];
        final int[] sideKind = new int[2 * CELLS_MOST];
        final int[] sideValue = new int[2 * CELLS_MOST];

        Machine() {
            Arrays.fill(cellRoom, NONE);
        }

        void clear() {
            state = IDLE;
            why = 0;
            frames = 0;
            rooms = 0;
            cells = 0;
            most = 0;
            stepCount = 0;
            laid = 0;
            leftAhead = 0;
            givenKind = NO_VALUE;
            givenValue = 0;
            lost = false;
            Arrays.fill(cellRoom, NONE);
        }

        void copyFrom(Machine from) {
            state = from.state;
            why = from.why;
            frames = from.frames;
            rooms = from.rooms;
            cells = from.cells;
            most = from.most;
            stepCount = from.stepCount;
            laid = from.laid;
            leftAhead = from.leftAhead;
            givenKind = from.givenKind;
            givenValue = from.givenValue;
            lost = from.lost;
            System.arraycopy(from.frameFun, 0, frameFun, 0, frameFun.length);
            System.arraycopy(from.frameLine, 0, frameLine, 0, frameLine.length);
            System.arraycopy(from.varKind, 0, varKind, 0, varKind.length);
            System.arraycopy(from.varValue, 0, varValue, 0, varValue.length);
            System.arraycopy(from.roomRegion, 0, roomRegion, 0, roomRegion.length);
            System.arraycopy(from.cellRoom, 0, cellRoom, 0, cellRoom.length);
            System.arraycopy(from.sideKind, 0, sideKind, 0, sideKind.length);
            System.arraycopy(from.sideValue, 0, sideValue, 0, sideValue.length);
        }

        /** LOADED, but for the VALUES of its PARAMETERS. */
        void begin(Program p) {
            clear();
            if (p.funs == 0) {
                return;
            }
            makeRooms(p.regions.outer[p.funs - 1]);
            openFrame(0, p.funs - 1);
            frames = 1;
            state = RUNS;
        }

        boolean hasVar(Program p, int k, int v) {
            return k >= 0 && k < frames && p.hasVar(frameFun[k], v);
        }

        boolean hasRoom(int k) {
            return k >= 0 && k < rooms;
        }

        boolean hasCell(int c) {
            return c >= 0 && c < CELLS_MOST && cellRoom[c] != NONE;
        }

        int resultKind() {
            return state == ENDED ? givenKind : NO_VALUE;
        }

        int latestFun() {
            return frames > 0 ? frameFun[frames - 1] : NONE;
        }

        int latestLine() {
            return frames > 0 ? frameLine[frames - 1] : NONE;
        }

        int regionOfCell(int c) {
            return hasCell(c) && hasRoom(cellRoom[c]) ? roomRegion[cellRoom[c]] : NONE;
        }

        int roomsOf(int r) {
            int found = 0;
            for (int k = 0; k < rooms; k++) {
                if (roomRegion[k] == r) {
                    found++;
                }
            }
            return found;
        }

        int cellsOf(int r) {
            int found = 0;
            for (int c = 0; c < CELLS_MOST; c++) {
                if (hasCell(c) && regionOfCell(c) == r) {
                    found++;
                }
            }
            return found;
        }

        int cellsIn(int k) {
            int found = 0;
            for (int c = 0; c < CELLS_MOST; c++) {
                if (cellRoom[c] == k) {
                    found++;
                }
            }
            return found;
        }

        void setVar(int k, int v, int kindOfIt, int valueOfIt) {
            varKind[k * VARS_MOST + v] = kindOfIt;
            varValue[k * VARS_MOST + v] = valueOfIt;
        }

        void makeStep(Program p) {
            if (state != RUNS || frames == 0) {
                return;
            }
            lost = false;
            int f = frameFun[frames - 1];
            int line = p.firstLine[f] + frameLine[frames - 1];
            makeRooms(p.regions.begins[line]);
            int reason = stopReason(p, f, line);
            stepCount++;
            if (reason != 0) {
                state = STOPPED;
                why = reason;
            } else if (callsNow(p, line)) {
                callBy(p, f, line);
            } else {
                work(p, f, line);
                settle(p);
            }
        }

        private void makeRooms(int regions) {
            if (regions == 0) {
                return;
            }
            for (int r = 0; r < REGIONS_MOST; r++) {
                if ((regions >> r & 1) != 0 && rooms < ROOMS_MOST) {
                    roomRegion[rooms] = r;
                    rooms++;
                }
            }
        }

        private int stopReason(Program p, int f, int line) {
            int expr = p.expr[line];
            if ((expr == WORD_LEFT || expr == WORD_RIGHT) && kindAt(p, line, 0) != A_PAIR) {
                return STOP_SIDE;
            }
            if (hasPairForNumber(p, line)) {
                return STOP_PAIR;
            }
            if (callsNow(p, line) && frames >= FRAMES_MOST && !p.leavesBy(f, line)) {
                return STOP_FRAMES;
            }
            if (expr == WORD_PAIR && cells >= CELLS_MOST) {
                return STOP_CELLS;
            }
            return stepCount >= STEPS_MOST ? STOP_STEPS : 0;
        }

        private boolean hasPairForNumber(Program p, int line) {
            switch (p.expr[line]) {
                case WORD_SUM:
                case WORD_LESS:
                    return kindAt(p, line, 0) == A_PAIR || kindAt(p, line, 1) == A_PAIR;
                case WORD_PICK:
                    return kindAt(p, line, 0) == A_PAIR;
                case WORD_WHEN:
                    return kindAt(p, line, p.conditionSlot(line)) == A_PAIR;
                default:
                    return false;
            }
        }

        private boolean callsNow(Program p, int line) {
            if (p.expr[line] == WORD_WHEN) {
                return valueAt(p, line, p.conditionSlot(line)) != 0;
            }
            return p.expr[line] == WORD_CALL;
        }

        private int kindAt(Program p, int line, int slot) {
            return varKind[(frames - 1) * VARS_MOST + p.operandAt(line, slot)];
        }

        private int valueAt(Program p, int line, int slot) {
            return varValue[(frames - 1) * VARS_MOST + p.operandAt(line, slot)];
        }

        private void openFrame(int k, int f) {
            frameFun[k] = f;
            frameLine[k] = 0;
            for (int v = 0; v < VARS_MOST; v++) {
                setVar(k, v, NO_VALUE, 0);
            }
        }

        private void callBy(Program p, int f, int line) {
            openFrame(frames, p.callee[line]);
            for (int i = 0; i < p.argumentCount(line); i++) {
                setVar(frames, i, kindAt(p, line, i), valueAt(p, line, i));
            }
            if (p.leavesBy(f, line)) {
                moveFrame(frames, frames - 1);
                lost = true;
                leftAhead++;
            } else {
                frames++;
            }
        }

        private void moveFrame(int from, int to) {
            frameFun[to] = frameFun[from];
            frameLine[to] = frameLine[from];
            System.arraycopy(varKind, from * VARS_MOST, varKind, to * VARS_MOST, VARS_MOST);
            System.arraycopy(varValue, from * VARS_MOST, varValue, to * VARS_MOST, VARS_MOST);
        }

        /** Tells which VALUE x will have. */
        private void work(Program p, int f, int line) {
            switch (p.expr[line]) {
                case PLAIN_NUMBER:
                    give(A_NUMBER, p.operandAt(line, 0));
                    break;
                case WORD_PAIR:
                    give(A_PAIR, layCell(p, f, line));
                    break;
                case WORD_LEFT:
                    giveSide(valueAt(p, line, 0), 0);
                    break;
                case WORD_RIGHT:
                    giveSide(valueAt(p, line, 0), 1);
                    break;
                case WORD_SUM:
                    give(A_NUMBER, valueAt(p, line, 0) + valueAt(p, line, 1));
                    break;
                case WORD_LESS:
                    give(A_NUMBER, valueAt(p, line, 0) < valueAt(p, line, 1) ? 1 : 0);
                    break;
                case WORD_PICK:
                    giveVar(p, line, valueAt(p, line, 0) != 0 ? 1 : 2);
                    break;
                case WORD_WHEN:
                    giveVar(p, line, p.elseSlot(line));
                    break;
                default:
                    giveVar(p, line, 0);
                    break;
            }
        }

        private void give(int kindOfIt, int valueOfIt) {
            givenKind = kindOfIt;
            givenValue = valueOfIt;
        }

        private void giveVar(Program p, int line, int slot) {
            give(kindAt(p, line, slot), valueAt(p, line, slot));
        }

        private void giveSide(int c, int side) {
            boolean there = hasCell(c);
            give(there ? sideKind[2 * c + side] : A_NUMBER, there ? sideValue[2 * c + side] : 0);
        }

        private int layCell(Program p, int f, int line) {
            int c = freeCell();
            int k = latestRoom(p.regions.pointedBy(f, p.varOfLine(f, line)));
            if (c == NONE || k == NONE) {
                return NONE;
            }
            cellRoom[c] = k;
            for (int side = 0; side < 2; side++) {
                sideKind[2 * c + side] = kindAt(p, line, side);
                sideValue[2 * c + side] = valueAt(p, line, side);
            }
            cells++;
            laid++;
            most = Math.max(most, cells);
            return c;
        }

        private int freeCell() {
            for (int c = 0; c < CELLS_MOST; c++) {
                if (cellRoom[c] == NONE) {
                    return c;
                }
            }
            return NONE;
        }

        private int latestRoom(int r) {
            for (int k = rooms - 1; k >= 0; k--) {
                if (roomRegion[k] == r) {
                    return k;
                }
            }
            return NONE;
        }

        /** Gives x of the LINE its VALUE; as long as that was a FUN's last LINE, it is given further. */
        private void settle(Program p) {
            for (int i = 0; i < FRAMES_MOST && frames > 0; i++) {
                int k = frames - 1;
                int f = frameFun[k];
                setVar(k, p.parameters[f] + frameLine[k], givenKind, givenValue);
                freeRooms(p, k, p.regions.ends[p.firstLine[f] + frameLine[k]]);
                frameLine[k]++;
                if (frameLine[k] < p.lineCount[f]) {
                    return;
                }
                frames--;
                lost = true;
            }
            state = ENDED;
        }

        private void freeRooms(Program p, int k, int regions) {
            if (regions == 0) {
                return;
            }
            lost = true;
            for (int r = 0; r < REGIONS_MOST; r++) {
                if ((regions >> r & 1) != 0) {
                    freeRoom(latestRoom(r));
                }
            }
            int f = frameFun[k];
            for (int v = 0; v < p.varCount(f); v++) {
                if ((p.regions.reachOfVar(f, v) & regions) != 0) {
                    setVar(k, v, NO_VALUE, 0);
                }
            }
        }

        private void freeRoom(int k) {
            if (!hasRoom(k)) {
                return;
            }
            for (int c = 0; c < CELLS_MOST; c++) {
                if (cellRoom[c] == k) {
                    cellRoom[c] = NONE;
                    cells--;
                } else if (cellRoom[c] > k) {
                    cellRoom[c]--;
                }
            }
            System.arraycopy(roomRegion, k + 1, roomRegion, k, rooms - k - 1);
            rooms--;
        }
    }

    /** Finds which CELLS are REACHED. */
    private static final class Judge {
        final boolean[] seen = new boolean[CELLS_MOST];
        private final int[] found = new int[CELLS_MOST];
        private int size = 0;

        int countReached(Program p, Machine m) {
            for (int c = 0; c < CELLS_MOST; c++) {
                seen[c] = false;
            }
            size = 0;
            for (int k = 0; k < m.frames; k++) {
                int vars = p.varCount(m.frameFun[k]);
                for (int v = 0; v < vars; v++) {
                    come(m, m.varKind[k * VARS_MOST + v], m.varValue[k * VARS_MOST + v]);
                }
            }
            come(m, m.resultKind(), m.givenValue);
            for (int i = 0; i < size; i++) {
                int c = found[i];
                come(m, m.sideKind[2 * c], m.sideValue[2 * c]);
                come(m, m.sideKind[2 * c + 1], m.sideValue[2 * c + 1]);
            }
            return size;
        }

        private void come(Machine m, int kindOfIt, int c) {
            if (kindOfIt == A_PAIR && m.hasCell(c) && !seen[c]) {
                seen[c] = true;
                found[size] = c;
                size++;
            }
        }
    }

    /** A ring of MACHINES as they were, the latest ones; each is made when it is first needed. */
    private static final class History {
        private final Machine[] kept = new Machine[UNDO_MOST];
        private int first = 0;
        private int size = 0;

        void clear() {
            size = 0;
        }

        void keep(Machine m) {
            if (size == UNDO_MOST) {
                first = (first + 1) % UNDO_MOST;
                size--;
            }
            int at = (first + size) % UNDO_MOST;
            if (kept[at] == null) {
                kept[at] = new Machine();
            }
            kept[at].copyFrom(m);
            size++;
        }

        int takeBack(Machine m) {
            if (size == 0) {
                return NONE;
            }
            int at = (first + size - 1) % UNDO_MOST;
            if (kept[at] == null) {
                return NONE;
            }
            m.copyFrom(kept[at]);
            size--;
            return size;
        }
    }

    /** A SENTENCE, each 'not', 'and', 'or' behind what it is about. */
    private static final class Sentence {
        boolean told = false;
        int ones = 0;
        private int size = 0;
        private final int[] words = new int[CODE_MOST];
        private final int[] signs = new int[CODE_MOST];
        private final int[] numbers = new int[CODE_MOST];
        private final boolean[] answers = new boolean[CODE_MOST];

        void clear() {
            told = false;
            ones = 0;
            size = 0;
        }

        void copyFrom(Sentence from) {
            told = from.told;
            ones = from.ones;
            size = from.size;
            System.arraycopy(from.words, 0, words, 0, words.length);
            System.arraycopy(from.signs, 0, signs, 0, signs.length);
            System.arraycopy(from.numbers, 0, numbers, 0, numbers.length);
        }

        /** Always true, so that a reader can go on with it. */
        boolean put(int word, int sign, int number) {
            if (size < CODE_MOST) {
                words[size] = word;
                signs[size] = sign;
                numbers[size] = number;
                size++;
            }
            return true;
        }

        boolean holds(int r, Program p, Machine m) {
            int top = 0;
            for (int i = 0; i < size; i++) {
                boolean joins = words[i] == WORD_AND || words[i] == WORD_OR;
                if (joins && top >= 2) {
                    top--;
                    boolean both = answers[top - 1] && answers[top];
                    boolean either = answers[top - 1] || answers[top];
                    answers[top - 1] = words[i] == WORD_AND ? both : either;
                } else if (words[i] == WORD_NOT && top >= 1) {
                    answers[top - 1] = !answers[top - 1];
                } else {
                    answers[top] = isTrue(i, r, p, m);
                    top++;
                }
            }
            return top > 0 && answers[0];
        }

        private boolean isTrue(int i, int r, Program p, Machine m) {
            switch (words[i]) {
                case WORD_FINITE:
                    return p.regions.isFinite(r);
                case WORD_OUTER:
                    return p.funs > 0 && (p.regions.outer[p.funs - 1] >> r & 1) != 0;
                case WORD_LIVE:
                    return m.roomsOf(r) > 0;
                case WORD_OWNED:
                    return (p.regions.ownedBy[r] >> numbers[i] & 1) != 0;
                case WORD_FILLED:
                    return (p.regions.filledBy[r] >> numbers[i] & 1) != 0;
                case WORD_CELLS:
                    return fits(m.cellsOf(r), i);
                case WORD_ROOMS:
                    return fits(m.roomsOf(r), i);
                default:
                    return fits(r, i);
            }
        }

        private boolean fits(int measured, int i) {
            switch (signs[i]) {
                case '<':
                    return measured < numbers[i];
                case '>':
                    return measured > numbers[i];
                default:
                    return measured == numbers[i];
            }
        }
    }

    /** What an image keeps. */
    private static final class Whole {
        final Program program = new Program();
        final Machine machine = new Machine();
        final Sentence sentence = new Sentence();

        void copyFrom(Whole from) {
            program.copyFrom(from.program);
            machine.copyFrom(from.machine);
            sentence.copyFrom(from.sentence);
        }
    }
}
