/**
 * Programs specialised: a program of BLOCKS and STEPS is read from a text; with what is GIVEN it is
 * unfolded into POINTS, at which all that is KNOWN is done and the rest is LEFT as steps of its own.
 *
 * All rows are made with the object and used again by every call, so that no call makes anything.
 */
public final class PointMaker {
    public static final int BAD = -1, STATE = -2, FULL = -3, NONE = -4;

    private static final int VARIABLES = 6, TOP_VALUE = 99, FIRST_VARIABLE = 100;
    private static final int MAX_BLOCKS = 8, MAX_STEPS = 24, MAX_POINTS = 40, MAX_WAY = 300;
    private static final int SET = 0, SAY = 1;
    private static final int PLUS = 0, LESS = 1, SAME = 2, MORE = 3, OPS = 4;
    private static final int GOTO = 0, IF = 1, STOP = 2;
    private static final int KIND = 0, TARGET = 1, FORMER = 2, OP = 3, LATTER = 4, STEP_PARTS = 5;
    private static final int MANY = 1, ENDING = 2, ONE = 3, TWO = 4, ASKED = 5;
    private static final int TAPE_BYTES = 320, SHOWN_BYTES = 512;
    private static final int IMAGES = 2, SHEETS = 4, LANES = 3, MAX_CELLS = 40, MAX_PAIRS = 20;
    private static final int MAX_AGREE = 50, SEED_TIMES = 1103515245, SEED_MORE = 12345, SEED_VALUES = 12;
    private static final int NULL_FAULT = 1, INDEX_FAULT = 2, CAST_FAULT = 3, SIZE_FAULT = 4;

    private final Reader reader;
    private final Program program;
    private final Program[] images;
    private final boolean[] kept;
    private final Points points;
    private final Letters pointLetters;
    private final Letters stepLetters;
    private final Run latest;
    private final Run whole;
    private final Run rest;
    private final int[] starts;
    private final int[] drawn;
    private final Sheet[] sheets;
    private int tornBy;
    private int writtenPoint;
    private boolean hasRun;
    private boolean stale;

    public PointMaker() {
        reader = new Reader();
        program = new Program();
        images = new Program[IMAGES];
        for (int k = 0; k < IMAGES; k++) {
            images[k] = new Program();
        }
        kept = new boolean[IMAGES];
        points = new Points();
        pointLetters = new Letters();
        stepLetters = new Letters();
        latest = new Run();
        whole = new Run();
        rest = new Run();
        starts = new int[VARIABLES];
        drawn = new int[VARIABLES];
        sheets = new Sheet[SHEETS];
        for (int k = 0; k < SHEETS; k++) {
            sheets[k] = new Sheet();
        }
        writtenPoint = NONE;
        stale = true;
    }

    // ---- the text, what there is

    public int feed(int c) {
        if (c < 0 || c > 127) {
            return BAD;
        }
        return reader.tape.append(c) ? reader.tape.length : FULL;
    }

    public int end(int n) {
        int had = reader.tape.length;
        if (n < 0 || n > had) {
            return BAD;
        }
        reader.tape.length = n;
        return had;
    }

    public int text() {
        boolean taken = reader.takesTape();
        reader.tape.length = 0;
        if (!taken) {
            return -10 - reader.place;
        }
        program.become(reader.draft);
        for (int k = 0; k < IMAGES; k++) {
            kept[k] = false;
        }
        hasRun = false;
        stale = true;
        return program.web.places;
    }

    public int fault() {
        return reader.fault;
    }

    public int rule(int what) {
        if (what < 0 || what > 7) {
            return BAD;
        }
        refresh();
        switch (what) {
            case 0:
                return program.web.places;
            case 1:
                return program.web.steps;
            case 2:
                return points.division.unknown;
            case 3:
                return program.givenBits();
            case 4:
                return program.wise;
            case 5:
                return points.tooMany ? FULL : points.web.places;
            case 6:
                return points.web.steps;
            default:
                return lettersOfAll();
        }
    }

    public int block(int b, int what) {
        if (!isBlock(b) || what < 0 || what > 6) {
            return BAD;
        }
        if (what == 0) {
            return program.web.many[b] == 0 ? NONE : program.web.first[b];
        }
        if (what == 6) {
            refresh();
            return points.division.aheadAt(b);
        }
        return program.web.placePart(b, what);
    }

    public int step(int i, int what) {
        return program.web.stepPart(i, what);
    }

    // ---- what is known

    public int give(int v, int x) {
        if (!isVariable(v) || x < -1 || x > TOP_VALUE) {
            return BAD;
        }
        int was = program.given[v];
        program.given[v] = x < 0 ? NONE : x;
        stale = true;
        return was;
    }

    public int wise(int v) {
        if (v < 0 || v > 1) {
            return BAD;
        }
        int was = program.wise;
        program.wise = v;
        stale = true;
        return was;
    }

    // ---- points

    public int point(int k, int what) {
        refresh();
        if (!isPoint(k) || what < 0 || what > 7) {
            return BAD;
        }
        switch (what) {
            case 0:
                return points.blockOf[k];
            case 6:
                return points.leader[k];
            case 7:
                write(k);
                return pointLetters.length;
            default:
                return points.web.placePart(k, what);
        }
    }

    public int held(int k, int v) {
        refresh();
        if (!isPoint(k) || !isVariable(v)) {
            return BAD;
        }
        return hasBit(points.division.unknown, v) ? NONE : points.values[k * VARIABLES + v];
    }

    public int left(int k, int i, int what) {
        refresh();
        if (!isLeft(k, i)) {
            return BAD;
        }
        return points.web.stepPart(points.web.first[k] + i, what);
    }

    public int shown(int k, int i) {
        refresh();
        if (!isPoint(k)) {
            return BAD;
        }
        write(k);
        return pointLetters.at(i);
    }

    public int where(int k, int i, int m, int j) {
        refresh();
        if (!isPoint(k) || i < 0 || !isLeft(m, j)) {
            return BAD;
        }
        write(k);
        stepLetters.writeStep(points.web, points.web.first[m] + j);
        return pointLetters.find(stepLetters, i);
    }

    // ---- runs

    public int begin(int v, int x) {
        if (!canBegin(v, x)) {
            return BAD;
        }
        int was = starts[v];
        starts[v] = x;
        return was;
    }

    public int run() {
        latest.go(program.web, starts, program.given, allBits());
        hasRun = true;
        return latest.stopped ? latest.steps : STATE;
    }

    public int runLeft() {
        refresh();
        if (points.web.places == 0) {
            return NONE;
        }
        latest.go(points.web, starts, program.given, points.division.unknown);
        hasRun = true;
        return latest.stopped ? latest.steps : STATE;
    }

    public int told(int what) {
        boolean ofVariable = isVariable(what - 10);
        if (what < 0 || (what > 3 && !ofVariable)) {
            return BAD;
        }
        if (!hasRun) {
            return what == 0 ? 0 : NONE;
        }
        if (ofVariable) {
            return latest.values[what - 10];
        }
        switch (what) {
            case 0:
                return latest.said;
            case 1:
                return latest.sayings;
            case 2:
                return latest.way;
            default:
                return latest.stopped ? 1 : 0;
        }
    }

    public int agree(int seed, int n, int what) {
        if (n < 1 || n > MAX_AGREE || what < 0 || what > 2) {
            return BAD;
        }
        refresh();
        if (points.web.places == 0) {
            return NONE;
        }
        int sum = 0;
        int turn = seed;
        for (int i = 0; i < n; i++) {
            for (int v = 0; v < VARIABLES; v++) {
                turn = turn * SEED_TIMES + SEED_MORE;
                drawn[v] = ((turn >>> 16) & 0x7fff) % SEED_VALUES;
            }
            whole.go(program.web, drawn, program.given, allBits());
            rest.go(points.web, drawn, program.given, points.division.unknown);
            sum += compareRuns(what);
        }
        return sum;
    }

    // ---- what is changed

    public int alter(int i, int what, int v) {
        int was = program.web.stepPart(i, what);
        if (what < TARGET || was < 0) {
            return BAD;
        }
        int bound = FIRST_VARIABLE + VARIABLES;
        if (what == TARGET) {
            bound = VARIABLES;
        } else if (what == OP) {
            bound = OPS;
        }
        if (v < 0 || v >= bound) {
            return BAD;
        }
        program.web.setStepPart(i, what, v);
        stale = true;
        return was;
    }

    public int lead(int b, int what, int v) {
        int was = program.web.placePart(b, what);
        if (what < ONE || what > ASKED || was < 0) {
            return BAD;
        }
        if (what == ASKED ? !isVariable(v) : !isBlock(v)) {
            return BAD;
        }
        program.web.setPlacePart(b, what, v);
        stale = true;
        return was;
    }

    // ---- images, sheets

    public int keep(int k) {
        if (k < 0 || k >= IMAGES) {
            return BAD;
        }
        int was = kept[k] ? 1 : 0;
        images[k].copyFrom(program);
        kept[k] = true;
        return was;
    }

    public int back(int k) {
        if (k < 0 || k >= IMAGES) {
            return BAD;
        }
        if (!kept[k]) {
            return STATE;
        }
        program.copyFrom(images[k]);
        hasRun = false;
        stale = true;
        return program.web.places;
    }

    public int sheet(int k, int lane, int n) {
        if (!isSheet(k) || !isLane(lane) || n > MAX_CELLS) {
            return BAD;
        }
        if (n < 0) {
            return -10 - SIZE_FAULT;
        }
        sheets[k].renew(lane, n);
        return 1;
    }

    public int lay(int k, int i, int v) {
        if (!isSheet(k)) {
            return BAD;
        }
        int found = sheets[k].faultAt(i);
        if (found != 0) {
            return -10 - found;
        }
        sheets[k].put(i, v);
        return 1;
    }

    public int read(int k, int lane, int f, int n) {
        if (!isSheet(k) || !isLane(lane) || n < 0 || n > MAX_PAIRS) {
            return BAD;
        }
        Sheet from = sheets[k];
        // The pairs are tried on a copy, because one that begin() refuses undoes those ahead of it.
        System.arraycopy(starts, 0, drawn, 0, VARIABLES);
        int found = 0;
        int came = 0;
        for (int i = 0; i < n && found == 0; i++) {
            found = from.faultOfPair(lane, f + 2 * i);
            if (found == 0) {
                int v = from.cellAt(f + 2 * i);
                int x = from.cellAt(f + 2 * i + 1);
                if (!canBegin(v, x)) {
                    return -20 - i;
                }
                drawn[v] = x;
                came++;
            }
        }
        System.arraycopy(drawn, 0, starts, 0, VARIABLES);
        tornBy = found;
        return came;
    }

    public int torn() {
        return tornBy;
    }

    public int count(int what) {
        switch (what) {
            case 0:
                return (kept[0] ? 1 : 0) + (kept[1] ? 1 : 0);
            case 1:
                return reader.tape.length;
            case 2:
                return sheets[0].lane == NONE ? NONE : sheets[0].length;
            case 3:
                return startsSum();
            case 4:
                return numbersSum();
            default:
                return BAD;
        }
    }

    // ---- what the calls above share

    /** What follows from the program is found anew only when a call asks for it behind a change. */
    private void refresh() {
        if (stale) {
            points.division.find(program);
            points.find(program);
            writtenPoint = NONE;
            stale = false;
        }
    }

    /** SHOWN is asked byte by byte, so the POINT that was written last stays written. */
    private void write(int k) {
        if (writtenPoint != k) {
            pointLetters.writePoint(points.web, k);
            writtenPoint = k;
        }
    }

    private int lettersOfAll() {
        int sum = 0;
        for (int k = 0; k < points.web.places; k++) {
            pointLetters.writePoint(points.web, k);
            writtenPoint = k;
            sum += pointLetters.length;
        }
        return sum;
    }

    private int compareRuns(int what) {
        if (what == 1) {
            return whole.stopped ? 1 : 0;
        }
        if (what == 2) {
            return whole.steps - rest.steps;
        }
        if (whole.said != rest.said || whole.stopped != rest.stopped) {
            return 0;
        }
        for (int v = 0; v < VARIABLES; v++) {
            if (hasBit(points.division.unknown, v) && whole.values[v] != rest.values[v]) {
                return 0;
            }
        }
        return 1;
    }

    private int startsSum() {
        int sum = 0;
        for (int v = 0; v < VARIABLES; v++) {
            sum += starts[v];
        }
        return sum;
    }

    private int numbersSum() {
        int sum = 0;
        for (int i = 0; i < program.web.steps; i++) {
            sum += numberOrZero(program.web.stepPart(i, FORMER));
            sum += numberOrZero(program.web.stepPart(i, LATTER));
        }
        return sum;
    }

    private static int numberOrZero(int operand) {
        return operand >= 0 && operand < FIRST_VARIABLE ? operand : 0;
    }

    private boolean isBlock(int b) {
        return b >= 0 && b < program.web.places;
    }

    private boolean isPoint(int k) {
        return k >= 0 && k < points.web.places;
    }

    private boolean isLeft(int k, int i) {
        return isPoint(k) && i >= 0 && i < points.web.many[k];
    }

    private static boolean isVariable(int v) {
        return v >= 0 && v < VARIABLES;
    }

    private static boolean canBegin(int v, int x) {
        return isVariable(v) && x >= 0 && x <= TOP_VALUE;
    }

    private static boolean isSheet(int k) {
        return k >= 0 && k < SHEETS;
    }

    private static boolean isLane(int lane) {
        return lane >= 0 && lane < LANES;
    }

    private static int allBits() {
        return (1 << VARIABLES) - 1;
    }

    private static boolean hasBit(int bits, int v) {
        return (bits >> v & 1) != 0;
    }

    /** The VARIABLE that an OPERAND is; NONE if it is a NUMBER, or if there is no OPERAND. */
    private static int variableOf(int operand) {
        int v = operand - FIRST_VARIABLE;
        return operand >= FIRST_VARIABLE && v < VARIABLES ? v : NONE;
    }

    private static int bitOf(int operand) {
        return operand < FIRST_VARIABLE ? 0 : 1 << operand - FIRST_VARIABLE;
    }

    private static int valueOf(int operand, int[] values) {
        int v = variableOf(operand);
        return v >= 0 && v < values.length ? values[v] : operand;
    }

    private static int result(int op, int x, int y) {
        switch (op) {
            case PLUS:
                return Math.min(TOP_VALUE, x + y);
            case LESS:
                return Math.max(0, x - y);
            case SAME:
                return x == y ? 1 : 0;
            default:
                return x > y ? 1 : 0;
        }
    }

    private static String nameOf(int op) {
        switch (op) {
            case PLUS:
                return "plus";
            case LESS:
                return "less";
            case SAME:
                return "same";
            default:
                return "more";
        }
    }

    private static void copyRow(int[] from, int[] to) {
        System.arraycopy(from, 0, to, 0, Math.min(from.length, to.length));
    }

    private static final class Tape {
        final byte[] bytes = new byte[TAPE_BYTES];
        int length;

        boolean append(int c) {
            if (length >= bytes.length) {
                return false;
            }
            bytes[length] = (byte) c;
            length++;
            return true;
        }

        int at(int i) {
            return i >= 0 && i < length && i < bytes.length ? bytes[i] : NONE;
        }
    }

    /**
     * Places with steps that lead on to one another. BLOCKS are the places of one, POINTS with what
     * is LEFT those of another, so that one and the same RUN goes through either.
     */
    private static final class Web {
        final int[] first, many, ending, one, two, asked;
        final int[] parts;
        int places;
        int steps;

        Web(int maxPlaces, int maxSteps) {
            first = new int[maxPlaces];
            many = new int[maxPlaces];
            ending = new int[maxPlaces];
            one = new int[maxPlaces];
            two = new int[maxPlaces];
            asked = new int[maxPlaces];
            parts = new int[maxSteps * STEP_PARTS];
        }

        void clear() {
            places = 0;
            steps = 0;
        }

        boolean open() {
            if (places >= first.length) {
                return false;
            }
            first[places] = steps;
            many[places] = 0;
            ending[places] = STOP;
            one[places] = NONE;
            two[places] = NONE;
            asked[places] = NONE;
            places++;
            return true;
        }

        /** The steps of a place lie side by side, from here on. */
        void startSteps(int p) {
            if (isPlace(p)) {
                first[p] = steps;
                many[p] = 0;
            }
        }

        /** To the place whose steps were started last. */
        boolean append(int p, int kind, int target, int former, int op, int latter) {
            int at = steps * STEP_PARTS;
            if (!isPlace(p) || at + LATTER >= parts.length) {
                return false;
            }
            parts[at + KIND] = kind;
            parts[at + TARGET] = target;
            parts[at + FORMER] = former;
            parts[at + OP] = op;
            parts[at + LATTER] = latter;
            steps++;
            many[p]++;
            return true;
        }

        void close(int p, int how, int toOne, int toTwo, int variable) {
            if (isPlace(p)) {
                ending[p] = how;
                one[p] = toOne;
                two[p] = toTwo;
                asked[p] = variable;
            }
        }

        boolean isPlace(int p) {
            return p >= 0 && p < places;
        }

        int placePart(int p, int what) {
            if (!isPlace(p)) {
                return BAD;
            }
            switch (what) {
                case MANY:
                    return many[p];
                case ENDING:
                    return ending[p];
                case ONE:
                    return one[p];
                case TWO:
                    return two[p];
                case ASKED:
                    return asked[p];
                default:
                    return BAD;
            }
        }

        void setPlacePart(int p, int what, int v) {
            if (!isPlace(p)) {
                return;
            }
            if (what == ONE) {
                one[p] = v;
            } else if (what == TWO) {
                two[p] = v;
            } else if (what == ASKED) {
                asked[p] = v;
            }
        }

        int stepPart(int i, int what) {
            if (i < 0 || i >= steps || what < 0 || what >= STEP_PARTS) {
                return BAD;
            }
            return parts[i * STEP_PARTS + what];
        }

        void setStepPart(int i, int what, int v) {
            if (i >= 0 && i < steps && what >= 0 && what < STEP_PARTS) {
                parts[i * STEP_PARTS + what] = v;
            }
        }

        void copyFrom(Web other) {
            places = other.places;
            steps = other.steps;
            copyRow(other.first, first);
            copyRow(other.many, many);
            copyRow(other.ending, ending);
            copyRow(other.one, one);
            copyRow(other.two, two);
            copyRow(other.asked, asked);
            copyRow(other.parts, parts);
        }
    }

    /** All that an IMAGE keeps. */
    private static final class Program {
        final Web web = new Web(MAX_BLOCKS, MAX_STEPS);
        final int[] given = new int[VARIABLES];
        int wise;

        Program() {
            forgetGiven();
        }

        void become(Web draft) {
            web.copyFrom(draft);
            forgetGiven();
        }

        private void forgetGiven() {
            for (int v = 0; v < VARIABLES; v++) {
                given[v] = NONE;
            }
            wise = 1;
        }

        int givenBits() {
            int bits = 0;
            for (int v = 0; v < VARIABLES; v++) {
                if (given[v] >= 0) {
                    bits |= 1 << v;
                }
            }
            return bits;
        }

        void copyFrom(Program other) {
            web.copyFrom(other.web);
            copyRow(other.given, given);
            wise = other.wise;
        }
    }

    /** Reads THE TAPE into a draft, a TOKEN at a time; the first FAULT that is met ends it. */
    private static final class Reader {
        private static final int NO_TOKEN = 1, MISPLACED = 2, OUT_OF_BOUNDS = 3, TOO_MANY = 5, NO_BLOCK = 6;
        private static final int FINISH = 0, NAME = 1, NUMBER = 2, SEMICOLON = 3, OTHER = 4;

        final Tape tape = new Tape();
        final Web draft = new Web(MAX_BLOCKS, MAX_STEPS);
        int fault;
        int place;
        private int sort;
        private int start;
        private int next;
        private int number;

        boolean takesTape() {
            draft.clear();
            fault = 0;
            place = 0;
            next = 0;
            if (!advance()) {
                return false;
            }
            for (int i = 0; i <= MAX_BLOCKS && sort != FINISH; i++) {
                if (!takesHead() || !takesSteps() || !takesEnd() || !takesSemicolon()) {
                    return false;
                }
            }
            return leadsToBlocks();
        }

        private boolean refuse(int found, int where) {
            fault = found;
            place = where;
            return false;
        }

        private boolean advance() {
            for (int i = 0; i < TAPE_BYTES && tape.at(next) == ' '; i++) {
                next++;
            }
            start = next;
            sort = sortOf(tape.at(start));
            if (sort == OTHER) {
                return refuse(NO_TOKEN, start);
            }
            if (sort == SEMICOLON) {
                next++;
            }
            boolean isLong = sort == NAME || sort == NUMBER;
            number = 0;
            for (int i = 0; i < TAPE_BYTES && isLong && sortOf(tape.at(next)) == sort; i++) {
                number = number * 10 + tape.at(next) - '0';
                next++;
            }
            return sort != NUMBER || next - start <= 2 || refuse(NO_TOKEN, start);
        }

        private static int sortOf(int c) {
            if (c == NONE) {
                return FINISH;
            }
            if (c >= 'a' && c <= 'z') {
                return NAME;
            }
            if (c >= '0' && c <= '9') {
                return NUMBER;
            }
            return c == ';' ? SEMICOLON : OTHER;
        }

        private boolean isWord(String word) {
            if (sort != NAME || next - start != word.length()) {
                return false;
            }
            for (int i = 0; i < word.length(); i++) {
                if (tape.at(start + i) != word.charAt(i)) {
                    return false;
                }
            }
            return true;
        }

        private int variableHere() {
            int v = tape.at(start) - 'a';
            return sort == NAME && next - start == 1 && isVariable(v) ? v : NONE;
        }

        private int operandHere() {
            if (sort == NUMBER) {
                return number;
            }
            int v = variableHere();
            return v < 0 ? NONE : FIRST_VARIABLE + v;
        }

        private int opHere() {
            for (int op = 0; op < OPS; op++) {
                if (isWord(nameOf(op))) {
                    return op;
                }
            }
            return NONE;
        }

        /** What was found at this TOKEN, and on to the next one; NONE behind a FAULT. */
        private int take(int found) {
            if (found < 0) {
                refuse(MISPLACED, start);
                return NONE;
            }
            return advance() ? found : NONE;
        }

        private int takeBlockNumber() {
            int to = number;
            if (sort != NUMBER || to >= MAX_BLOCKS) {
                refuse(sort != NUMBER ? MISPLACED : OUT_OF_BOUNDS, start);
                return NONE;
            }
            return advance() ? to : NONE;
        }

        private boolean takesSemicolon() {
            return take(sort == SEMICOLON ? 0 : NONE) >= 0;
        }

        private boolean takesHead() {
            if (!isWord("block")) {
                return refuse(MISPLACED, start);
            }
            if (!draft.open()) {
                return refuse(TOO_MANY, start);
            }
            return advance() && takesSemicolon();
        }

        private boolean takesSteps() {
            for (int i = 0; i <= MAX_STEPS && (isWord("set") || isWord("say")); i++) {
                if (draft.steps >= MAX_STEPS) {
                    return refuse(TOO_MANY, start);
                }
                boolean isSet = isWord("set");
                if (!advance() || !(isSet ? takesSet() : takesSay()) || !takesSemicolon()) {
                    return false;
                }
            }
            return true;
        }

        private boolean takesSet() {
            int target = take(variableHere());
            if (target < 0) {
                return false;
            }
            int former = take(operandHere());
            if (former < 0) {
                return false;
            }
            if (sort != NAME) {
                return draft.append(draft.places - 1, SET, target, former, PLUS, 0);
            }
            int op = take(opHere());
            if (op < 0) {
                return false;
            }
            int latter = take(operandHere());
            return latter >= 0 && draft.append(draft.places - 1, SET, target, former, op, latter);
        }

        private boolean takesSay() {
            int operand = take(operandHere());
            return operand >= 0 && draft.append(draft.places - 1, SAY, NONE, operand, NONE, NONE);
        }

        private boolean takesEnd() {
            if (isWord("stop")) {
                return advance();
            }
            if (isWord("goto")) {
                return advance() && takesGoto();
            }
            if (isWord("if")) {
                return advance() && takesIf();
            }
            return refuse(MISPLACED, start);
        }

        private boolean takesGoto() {
            int to = takeBlockNumber();
            draft.close(draft.places - 1, GOTO, to, NONE, NONE);
            return to >= 0;
        }

        private boolean takesIf() {
            int variable = take(variableHere());
            if (variable < 0) {
                return false;
            }
            int toOne = takeBlockNumber();
            if (toOne < 0) {
                return false;
            }
            int toTwo = takeBlockNumber();
            draft.close(draft.places - 1, IF, toOne, toTwo, variable);
            return toTwo >= 0;
        }

        private boolean leadsToBlocks() {
            for (int b = 0; b < draft.places; b++) {
                if (draft.one[b] >= draft.places || draft.two[b] >= draft.places) {
                    return refuse(NO_BLOCK, tape.length);
                }
            }
            return true;
        }
    }

    /** Which VARIABLES are UNKNOWN, and which are READ ahead at each BLOCK. */
    private static final class Division {
        final int[] ahead = new int[MAX_BLOCKS];
        int unknown;

        void find(Program program) {
            unknown = allBits() & ~program.givenBits();
            // Each pass but the last finds at least one bit more, so the passes are bounded by the bits.
            boolean grew = true;
            for (int pass = 0; pass <= VARIABLES && grew; pass++) {
                grew = spreadsUnknown(program.web);
            }
            for (int b = 0; b < MAX_BLOCKS; b++) {
                ahead[b] = 0;
            }
            grew = true;
            for (int pass = 0; pass <= MAX_BLOCKS * VARIABLES && grew; pass++) {
                grew = spreadsAhead(program.web);
            }
        }

        private boolean spreadsUnknown(Web web) {
            int was = unknown;
            for (int i = 0; i < web.steps; i++) {
                if (web.stepPart(i, KIND) == SET && (operandBits(web, i) & unknown) != 0) {
                    unknown |= 1 << web.stepPart(i, TARGET);
                }
            }
            return unknown != was;
        }

        private boolean spreadsAhead(Web web) {
            boolean grew = false;
            for (int b = Math.min(web.places, MAX_BLOCKS) - 1; b >= 0; b--) {
                int bits = aheadAt(web.one[b]) | aheadAt(web.two[b]);
                if (web.ending[b] == IF) {
                    bits |= 1 << web.asked[b];
                }
                bits = aheadOfSteps(web, b, bits);
                if (bits != ahead[b]) {
                    ahead[b] = bits;
                    grew = true;
                }
            }
            return grew;
        }

        private static int aheadOfSteps(Web web, int b, int behind) {
            int bits = behind;
            for (int i = web.first[b] + web.many[b] - 1; i >= web.first[b]; i--) {
                if (web.stepPart(i, KIND) == SET) {
                    bits &= ~(1 << web.stepPart(i, TARGET));
                }
                bits |= operandBits(web, i);
            }
            return bits;
        }

        int aheadAt(int b) {
            return b >= 0 && b < MAX_BLOCKS ? ahead[b] : 0;
        }

        private static int operandBits(Web web, int i) {
            return bitOf(web.stepPart(i, FORMER)) | bitOf(web.stepPart(i, LATTER));
        }
    }

    /** The POINTS, found by order, with what is LEFT of each. */
    private static final class Points {
        final Division division = new Division();
        final Web web = new Web(MAX_POINTS, MAX_POINTS * MAX_STEPS);
        final int[] blockOf = new int[MAX_POINTS];
        final int[] leader = new int[MAX_POINTS];
        final int[] values = new int[MAX_POINTS * VARIABLES];
        boolean tooMany;
        private final int[] now = new int[VARIABLES];
        private final int[] sought = new int[VARIABLES];

        /** Behind division.find(), on which it leans. */
        void find(Program program) {
            web.clear();
            tooMany = false;
            if (program.web.places == 0) {
                return;
            }
            for (int v = 0; v < VARIABLES; v++) {
                now[v] = Math.max(0, program.given[v]);
            }
            meet(program, 0, NONE);
            for (int k = 0; k < MAX_POINTS && k < web.places && !tooMany; k++) {
                specialise(program.web, k);
                leadOn(program, k);
            }
            if (tooMany) {
                web.clear();
            }
        }

        /** The POINT of a BLOCK with the VALUES of now, found again or new; NONE if it would be one too many. */
        private int meet(Program program, int b, int from) {
            seek(b, program.wise);
            int k = findAlike(b);
            if (k >= 0) {
                // None leads to POINT 0 when it is made; the first that does is told here.
                if (leader[k] == NONE) {
                    leader[k] = from;
                }
                return k;
            }
            if (!web.open()) {
                tooMany = true;
                return NONE;
            }
            k = web.places - 1;
            blockOf[k] = b;
            leader[k] = from;
            for (int v = 0; v < VARIABLES; v++) {
                values[k * VARIABLES + v] = sought[v];
            }
            return k;
        }

        private void seek(int b, int wisdom) {
            int apart = wisdom == 0 ? allBits() : division.aheadAt(b);
            apart &= ~division.unknown;
            for (int v = 0; v < VARIABLES; v++) {
                sought[v] = hasBit(apart, v) ? now[v] : 0;
            }
        }

        private int findAlike(int b) {
            for (int k = 0; k < web.places; k++) {
                boolean alike = blockOf[k] == b;
                for (int v = 0; v < VARIABLES && alike; v++) {
                    alike = values[k * VARIABLES + v] == sought[v];
                }
                if (alike) {
                    return k;
                }
            }
            return NONE;
        }

        /** What is LEFT of the STEPS of a POINT; now has the VALUES behind them. */
        private void specialise(Web blocks, int k) {
            for (int v = 0; v < VARIABLES; v++) {
                now[v] = values[k * VARIABLES + v];
            }
            int b = blockOf[k];
            if (!blocks.isPlace(b)) {
                return;
            }
            web.startSteps(k);
            int behind = blocks.first[b] + blocks.many[b];
            for (int i = blocks.first[b]; i < behind; i++) {
                doOrLeave(blocks, k, i);
            }
        }

        private void doOrLeave(Web from, int k, int i) {
            int kind = from.stepPart(i, KIND);
            int target = from.stepPart(i, TARGET);
            int op = from.stepPart(i, OP);
            int former = asKnown(from.stepPart(i, FORMER));
            int latter = asKnown(from.stepPart(i, LATTER));
            if (kind == SET && isVariable(target) && !hasBit(division.unknown, target)) {
                now[target] = result(op, former, latter);
            } else {
                web.append(k, kind, target, former, op, latter);
            }
        }

        /** An OPERAND as it is LEFT; that of a set whose TARGET is KNOWN is always a NUMBER then. */
        private int asKnown(int operand) {
            int v = variableOf(operand);
            return v < 0 || hasBit(division.unknown, v) ? operand : now[v];
        }

        private void leadOn(Program program, int k) {
            int b = blockOf[k];
            if (!program.web.isPlace(b)) {
                return;
            }
            int how = program.web.ending[b];
            int toOne = program.web.one[b];
            int toTwo = program.web.two[b];
            int variable = program.web.asked[b];
            if (how == STOP) {
                web.close(k, STOP, NONE, NONE, NONE);
            } else if (how == GOTO || !isVariable(variable)) {
                web.close(k, GOTO, meet(program, toOne, k), NONE, NONE);
            } else if (hasBit(division.unknown, variable)) {
                int pointOne = meet(program, toOne, k);
                int pointTwo = meet(program, toTwo, k);
                web.close(k, IF, pointOne, pointTwo, variable);
            } else {
                web.close(k, GOTO, meet(program, now[variable] != 0 ? toOne : toTwo, k), NONE, NONE);
            }
        }
    }

    /** A text in a row of its own: SHOWN of a POINT, or of one of its STEPS. */
    private static final class Letters {
        final byte[] row = new byte[SHOWN_BYTES];
        int length;

        int at(int i) {
            return i >= 0 && i < length && i < row.length ? row[i] : BAD;
        }

        void add(int c) {
            if (length < row.length) {
                row[length] = (byte) c;
                length++;
            }
        }

        void addWord(String word) {
            for (int i = 0; i < word.length(); i++) {
                add(word.charAt(i));
            }
        }

        void addNumber(int n) {
            if (n >= 10) {
                add('0' + n / 10 % 10);
            }
            add('0' + n % 10);
        }

        void addOperand(int operand) {
            int v = variableOf(operand);
            add(' ');
            if (v < 0) {
                addNumber(operand);
            } else {
                add('a' + v);
            }
        }

        void addPlace(int k) {
            add('p');
            addNumber(k);
        }

        void writePoint(Web web, int k) {
            length = 0;
            if (!web.isPlace(k)) {
                return;
            }
            addPlace(k);
            add(':');
            for (int i = 0; i < web.many[k]; i++) {
                add(' ');
                addStep(web, web.first[k] + i);
            }
            add(' ');
            addEnding(web, k);
        }

        void writeStep(Web web, int i) {
            length = 0;
            addStep(web, i);
        }

        private void addStep(Web web, int i) {
            if (web.stepPart(i, KIND) == SAY) {
                addWord("say");
                addOperand(web.stepPart(i, FORMER));
            } else {
                addWord("set ");
                add('a' + web.stepPart(i, TARGET));
                addOperand(web.stepPart(i, FORMER));
                add(' ');
                addWord(nameOf(web.stepPart(i, OP)));
                addOperand(web.stepPart(i, LATTER));
            }
            add(';');
        }

        private void addEnding(Web web, int k) {
            int how = web.placePart(k, ENDING);
            if (how == STOP) {
                addWord("stop");
            } else if (how == GOTO) {
                addWord("goto ");
                addPlace(web.placePart(k, ONE));
            } else {
                addWord("if ");
                add('a' + web.placePart(k, ASKED));
                add(' ');
                addPlace(web.placePart(k, ONE));
                add(' ');
                addPlace(web.placePart(k, TWO));
            }
            add(';');
        }

        int find(Letters piece, int from) {
            for (int i = from; i <= length - piece.length; i++) {
                if (hasAt(piece, i)) {
                    return i;
                }
            }
            return NONE;
        }

        private boolean hasAt(Letters piece, int from) {
            for (int i = 0; i < piece.length; i++) {
                if (at(from + i) != piece.at(i)) {
                    return false;
                }
            }
            return true;
        }
    }

    private static final class Run {
        final int[] values = new int[VARIABLES];
        int said;
        int sayings;
        int way;
        int steps;
        boolean stopped;

        /** From place 0 on, with VALUES in the VARIABLES of bits alone. */
        void go(Web web, int[] starts, int[] given, int bits) {
            for (int v = 0; v < VARIABLES; v++) {
                int first = given[v] >= 0 ? given[v] : starts[v];
                values[v] = hasBit(bits, v) ? first : 0;
            }
            said = 0;
            sayings = 0;
            way = 0;
            steps = 0;
            stopped = web.places == 0;
            int p = 0;
            for (int i = 0; i < MAX_WAY && !stopped; i++) {
                way++;
                doSteps(web, p);
                p = onward(web, p);
            }
        }

        private void doSteps(Web web, int p) {
            if (!web.isPlace(p)) {
                return;
            }
            int behind = web.first[p] + web.many[p];
            for (int i = web.first[p]; i < behind; i++) {
                int x = valueOf(web.stepPart(i, FORMER), values);
                int target = web.stepPart(i, TARGET);
                if (isVariable(target)) {
                    int y = valueOf(web.stepPart(i, LATTER), values);
                    values[target] = result(web.stepPart(i, OP), x, y);
                } else {
                    said = said * 31 + x + 1;
                    sayings++;
                }
                steps++;
            }
        }

        private int onward(Web web, int p) {
            int how = web.placePart(p, ENDING);
            int variable = web.placePart(p, ASKED);
            if (how == GOTO) {
                return web.placePart(p, ONE);
            }
            if (how == IF && isVariable(variable)) {
                return web.placePart(p, values[variable] != 0 ? ONE : TWO);
            }
            stopped = true;
            return p;
        }
    }

    /** CELLS of a lane; nothing, as long as the lane is NONE. */
    private static final class Sheet {
        final int[] cells = new int[MAX_CELLS];
        int lane = NONE;
        int length;

        void renew(int newLane, int n) {
            lane = newLane;
            length = Math.max(0, Math.min(n, cells.length));
            for (int i = 0; i < cells.length; i++) {
                cells[i] = 0;
            }
        }

        int faultAt(int i) {
            if (lane == NONE) {
                return NULL_FAULT;
            }
            return i < 0 || i >= length ? INDEX_FAULT : 0;
        }

        /** The cast is a part of each pair's reading: where no pair is read, no FAULT is found. */
        int faultOfPair(int asLane, int i) {
            // Nothing passes the cast to any lane, as null does.
            if (lane != NONE && lane != asLane) {
                return CAST_FAULT;
            }
            int found = faultAt(i);
            return found != 0 ? found : faultAt(i + 1);
        }

        int cellAt(int i) {
            return faultAt(i) == 0 ? cells[i] : 0;
        }

        void put(int i, int v) {
            if (faultAt(i) != 0) {
                return;
            }
            if (lane == 0) {
                cells[i] = (byte) v;
            } else if (lane == 1) {
                cells[i] = (short) v;
            } else {
                cells[i] = v;
            }
        }
    }
}
