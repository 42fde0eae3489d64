import java.util.Arrays;

/**
 * A desk for linkages: a text tells joints, bars and wheels; counts, motions, turning, trains of
 * wheels, parts and rows are asked of it. Refusals are answers, nothing is ever thrown.
 */
public final class LinkageCurves {
    public static final int NONE = -1000000, BAD = -1000001, STATE = -1000002, FULL = -1000003;

    /** A FINDING answers this less its number. */
    private static final int FINDING = -1000010;
    private static final int NO_ROW = 1, NO_PLACE = 2, NOT_THAT_KIND = 3, BELOW_NONE = 4, BY_NOUGHT = 5, TWO_LANES = 6;

    private static final int PIN = 0, GROUND = 1, BAR = 2, WHEEL = 3, MESH = 4, BELT = 5, SHAFT = 6, KINDS = 7;
    /** The KIND that a PART of each KIND is, too; NONE ends the chain. */
    private static final int[] WIDER_KIND = {NONE, PIN, NONE, NONE, NONE, MESH, BELT};

    private static final int JOINTS = 0, BARS = 1, WHEELS = 2, COUPLINGS = 3, FAMILIES = 4;
    private static final int[] FAMILY_OF_KIND = {JOINTS, JOINTS, BARS, WHEELS, COUPLINGS, COUPLINGS, COUPLINGS};
    private static final int MOST_JOINTS = 24, MOST_BARS = 60, MOST_WHEELS = 16, MOST_COUPLINGS = 30;
    private static final int[] MOST_OF_FAMILY = {MOST_JOINTS, MOST_BARS, MOST_WHEELS, MOST_COUPLINGS};
    private static final int MOST_PARTS = 130;

    private static final int STEPS = 256;
    private static final int ROWS = 8, LANES = 4, MOST_ITEMS = 300;
    private static final int LONGEST_BAR = 10000;

    private final Reader reader = new Reader();
    private Linkage linkage = new Linkage();
    private final Counts counts = new Counts();
    private final Matrix matrix = new Matrix();
    private final Turning turning = new Turning();
    private final Places posed = new Places();
    private boolean isPosed;
    private final Curve curve = new Curve();
    private final Train train = new Train();
    private final Asks asks = new Asks();
    private final Row[] rows = new Row[ROWS];
    private int status;

    public LinkageCurves() {
        for (int i = 0; i < ROWS; i++) {
            rows[i] = new Row();
        }
    }

    // ---- the text

    public int feed(int n, long bytes) {
        if (n < 1 || n > 8) {
            return BAD;
        }
        return reader.append(n, bytes);
    }

    public int read() {
        int fault = reader.readTape();
        if (fault != 0) {
            return -10 - fault;
        }
        linkage = reader.exchange(linkage);
        counts.work(linkage);
        matrix.work(linkage);
        turning.work(linkage);
        isPosed = false;
        curve.drawn = false;
        return linkage.parts;
    }

    public int place() {
        return reader.faultPlace;
    }

    public int part(int part, int what) {
        if (!isPart(part)) {
            return BAD;
        }
        switch (what) {
            case 0: return linkage.kinds[part];
            case 1: return linkage.numbers[part];
            case 2: return linkage.firsts[part];
            case 3: return linkage.seconds[part];
            default: return BAD;
        }
    }

    // ---- counts

    public int needed(int bar) {
        if (!isMember(BARS, bar)) {
            return BAD;
        }
        return counts.neededBar[bar] ? 1 : 0;
    }

    public int together(int a, int b) {
        if (!isMember(JOINTS, a) || !isMember(JOINTS, b)) {
            return BAD;
        }
        return counts.areTogether(a, b) ? 1 : 0;
    }

    public int cluster(int bar) {
        if (!isMember(BARS, bar)) {
            return BAD;
        }
        return counts.leastBar[bar];
    }

    public int mobility() {
        return counts.mobility;
    }

    // ---- at the told places

    public int rank(int what) {
        switch (what) {
            case 0: return matrix.rank;
            case 1: return matrix.columns - matrix.rank;
            case 2: return matrix.rows - matrix.rank;
            default: return BAD;
        }
    }

    public int motion(int k, int joint, int axis) {
        if (k < 0 || k >= matrix.columns - matrix.rank || !isMember(JOINTS, joint) || !isAxis(axis)) {
            return BAD;
        }
        return matrix.motionAt(k, joint, axis);
    }

    // ---- turning

    public int pose(int step) {
        if (!isStep(step)) {
            return BAD;
        }
        if (linkage.driven == NONE) {
            return STATE;
        }
        turning.arrange(linkage, step, turning.hanging, posed);
        isPosed = true;
        return posed.howMany(linkage.size(JOINTS));
    }

    public long at(int joint, int axis) {
        if (!isMember(JOINTS, joint) || !isAxis(axis)) {
            return BAD;
        }
        if (!isPosed) {
            return STATE;
        }
        if (posed.reason[joint] != 0) {
            return NONE;
        }
        return axis == 0 ? posed.x[joint] : posed.y[joint];
    }

    public int why(int joint) {
        if (!isMember(JOINTS, joint)) {
            return BAD;
        }
        return isPosed ? posed.reason[joint] : STATE;
    }

    public int order(int k, int what) {
        if (what < 0 || what > 2) {
            return BAD;
        }
        if (linkage.driven == NONE) {
            return STATE;
        }
        if (k < 0 || k >= turning.hanging) {
            return NONE;
        }
        int joint = turning.sequence[k];
        switch (what) {
            case 0: return joint;
            case 1: return turning.onA[joint];
            default: return turning.onB[joint];
        }
    }

    public int flip(int joint) {
        if (!isMember(JOINTS, joint)) {
            return BAD;
        }
        if (linkage.driven == NONE || turning.onA[joint] == NONE) {
            return STATE;
        }
        turning.side[joint] = -turning.side[joint];
        return turning.side[joint];
    }

    public int trace(int joint) {
        if (!isMember(JOINTS, joint)) {
            return BAD;
        }
        if (linkage.driven == NONE) {
            return STATE;
        }
        curve.draw(linkage, turning, joint);
        return curve.howMany;
    }

    public long curve(int step, int axis) {
        if (!isStep(step) || !isAxis(axis)) {
            return BAD;
        }
        if (!curve.drawn) {
            return STATE;
        }
        return curve.isPlaced[step] ? curve.valuesOf(axis)[step] : NONE;
    }

    public int told(int what) {
        if (what < 0 || what > 4) {
            return BAD;
        }
        if (!curve.drawn) {
            return STATE;
        }
        switch (what) {
            case 0: return curve.beginnings();
            case 1: return curve.firstFarthest(0, -1);
            case 2: return curve.firstFarthest(0, 1);
            case 3: return curve.firstFarthest(1, -1);
            default: return curve.firstFarthest(1, 1);
        }
    }

    // ---- wheels, four bars

    public long ratio(int a, int b, int what) {
        if (!isMember(WHEELS, a) || !isMember(WHEELS, b) || what < 0 || what > 1) {
            return BAD;
        }
        train.spread(linkage, a);
        switch (train.reached[b]) {
            case Train.NOT_YET: return NONE;
            case Train.GREAT: return 0;
            default: return what == 0 ? train.upper[b] : train.lower[b];
        }
    }

    public int lock() {
        return train.firstLock(linkage);
    }

    public int fourBars(int ground, int input, int coupler, int output) {
        if (!isLength(ground) || !isLength(input) || !isLength(coupler) || !isLength(output)) {
            return BAD;
        }
        int sum = ground + input + coupler + output;
        int longest = Math.max(Math.max(ground, input), Math.max(coupler, output));
        int shortest = Math.min(Math.min(ground, input), Math.min(coupler, output));
        int others = sum - longest - shortest;
        if (longest >= sum - longest) {
            return 0;
        }
        if (shortest + longest >= others) {
            return shortest + longest > others ? 1 : 2;
        }
        if (shortest == ground) {
            return 3;
        }
        if (shortest == input) {
            return 4;
        }
        return shortest == coupler ? 5 : 6;
    }

    // ---- parts asked

    public int ask(int part, int what) {
        if (!isPart(part) || what < 0 || what > 2) {
            return BAD;
        }
        asks.start(linkage.kinds[part], linkage.sizeOf(part));
        int answer;
        switch (what) {
            case 0: answer = asks.freedom(); break;
            case 1: answer = asks.mass(); break;
            default: answer = asks.loss(); break;
        }
        return asks.byNought ? found(BY_NOUGHT) : fine(answer);
    }

    public int trail(int i) {
        return i >= 0 && i < asks.begun ? asks.bodies[i] : NONE;
    }

    public int is(int part, int kind) {
        if (!isPart(part) || !isKind(kind)) {
            return BAD;
        }
        return linkage.isOfKind(part, kind) ? 1 : 0;
    }

    public int as(int part, int kind) {
        if (!isPart(part) || !isKind(kind)) {
            return BAD;
        }
        return linkage.isOfKind(part, kind) ? fine(linkage.numbers[part]) : found(NOT_THAT_KIND);
    }

    // ---- rows

    public int lay(int row, int lane, int n) {
        if (!isRow(row) || lane < 0 || lane >= LANES || n > MOST_ITEMS) {
            return BAD;
        }
        if (n < 0) {
            return found(BELOW_NONE);
        }
        rows[row].renew(lane, n);
        return fine(n);
    }

    public int drop(int row) {
        if (!isRow(row)) {
            return BAD;
        }
        if (!rows[row].isThere) {
            return found(NO_ROW);
        }
        rows[row].isThere = false;
        return fine(rows[row].size);
    }

    public long put(int row, int i, long v) {
        int refusal = refusalAt(row, i);
        return refusal != 0 ? refusal : rows[row].store(i, v);
    }

    public long get(int row, int i) {
        int refusal = refusalAt(row, i);
        return refusal != 0 ? refusal : rows[row].items[i];
    }

    public int move(int a, int i, int b, int j, int n) {
        if (!isRow(a) || !isRow(b)) {
            return BAD;
        }
        Row from = rows[a];
        Row to = rows[b];
        if (!from.isThere || !to.isThere) {
            return found(NO_ROW);
        }
        if (from.lane != to.lane) {
            return found(TWO_LANES);
        }
        if (!from.holds(i, n) || !to.holds(j, n)) {
            return found(NO_PLACE);
        }
        System.arraycopy(from.items, i, to.items, j, n);
        return fine(n);
    }

    public int keep(int row, int axis) {
        if (!isRow(row) || !isAxis(axis)) {
            return BAD;
        }
        if (!curve.drawn) {
            return STATE;
        }
        if (!rows[row].isThere) {
            return found(NO_ROW);
        }
        long[] values = curve.valuesOf(axis);
        int n = Math.min(STEPS, rows[row].size);
        for (int i = 0; i < n; i++) {
            rows[row].store(i, curve.isPlaced[i] ? values[i] : 0);
        }
        return fine(n);
    }

    public int count(int what) {
        switch (what) {
            case 0: return linkage.size(JOINTS);
            case 1: return linkage.grounds();
            case 2: return linkage.size(BARS);
            case 3: return linkage.size(WHEELS);
            case 4: return linkage.size(COUPLINGS);
            case 5: return linkage.parts;
            case 6: return counts.ties;
            case 7: return counts.clusters;
            case 8: return reader.length;
            case 9: return rowsThere();
            case 10: return linkage.driven;
            case 11: return linkage.about;
            default: return BAD;
        }
    }

    public int status() {
        return status;
    }

    public long digest() {
        long h = 17;
        for (int i = 0; i < linkage.parts; i++) {
            h = 31 * h + linkage.kinds[i];
            h = 31 * h + linkage.firsts[i];
            h = 31 * h + linkage.seconds[i];
        }
        for (int i = 0; i < ROWS; i++) {
            h = rows[i].mixedInto(h);
        }
        return h;
    }

    // ---- what the calls share

    private boolean isPart(int part) {
        return part >= 0 && part < linkage.parts;
    }

    private boolean isMember(int family, int number) {
        return number >= 0 && number < linkage.size(family);
    }

    private static boolean isAxis(int axis) {
        return axis == 0 || axis == 1;
    }

    private static boolean isStep(int step) {
        return step >= 0 && step < STEPS;
    }

    private static boolean isLength(int length) {
        return length >= 1 && length <= LONGEST_BAR;
    }

    private static boolean isKind(int kind) {
        return kind >= 0 && kind < KINDS;
    }

    private static boolean isRow(int row) {
        return row >= 0 && row < ROWS;
    }

    /** What put() and get() refuse with; 0: there is such an ITEM. */
    private int refusalAt(int row, int i) {
        if (!isRow(row)) {
            return BAD;
        }
        if (!rows[row].isThere) {
            return found(NO_ROW);
        }
        return i < 0 || i >= rows[row].size ? found(NO_PLACE) : fine(0);
    }

    private int rowsThere() {
        int there = 0;
        for (int i = 0; i < ROWS; i++) {
            if (rows[i].isThere) {
                there++;
            }
        }
        return there;
    }

    private int fine(int answer) {
        status = 0;
        return answer;
    }

    private int found(int finding) {
        status = finding;
        return FINDING - finding;
    }

    /** The root, DOWN, of a number below 2^60; 0 of one that is not above 0. */
    private static long rootDown(long square) {
        if (square <= 0) {
            return 0;
        }
        long guess = 1;
        for (int i = 0; i < 30 && guess * guess < square; i++) {
            guess *= 2;
        }
        // From a guess that is not below the root, Newton's steps fall until they reach it.
        for (int i = 0; i < 64; i++) {
            long next = (guess + square / guess) / 2;
            if (next >= guess) {
                break;
            }
            guess = next;
        }
        return guess;
    }

    /** All PARTS as told; members of a family (JOINTS, BARS, ..) are found by their own numbers. */
    private static final class Linkage {
        private final int[] kinds = new int[MOST_PARTS];
        private final int[] numbers = new int[MOST_PARTS];
        private final int[] firsts = new int[MOST_PARTS];
        private final int[] seconds = new int[MOST_PARTS];
        private final int[] names = new int[MOST_PARTS];
        private final int[][] members = new int[FAMILIES][MOST_BARS];
        private final int[] sizes = new int[FAMILIES];
        private int parts;
        private int driven = NONE;
        private int about = NONE;

        void clear() {
            Arrays.fill(sizes, 0);
            parts = 0;
            driven = NONE;
            about = NONE;
        }

        int size(int family) {
            return sizes[family];
        }

        boolean isFull(int family) {
            return sizes[family] >= MOST_OF_FAMILY[family];
        }

        void add(int kind, int name, int first, int second) {
            int family = FAMILY_OF_KIND[kind];
            if (isFull(family)) {
                return;
            }
            kinds[parts] = kind;
            numbers[parts] = sizes[family];
            names[parts] = name;
            firsts[parts] = first;
            seconds[parts] = second;
            members[family][sizes[family]] = parts;
            sizes[family]++;
            parts++;
        }

        int kindOf(int family, int number) {
            return kinds[members[family][number]];
        }

        int firstOf(int family, int number) {
            return firsts[members[family][number]];
        }

        int secondOf(int family, int number) {
            return seconds[members[family][number]];
        }

        int numberOf(int family, int name) {
            for (int i = 0; i < sizes[family]; i++) {
                if (names[members[family][i]] == name) {
                    return i;
                }
            }
            return NONE;
        }

        int x(int joint) {
            return firstOf(JOINTS, joint);
        }

        int y(int joint) {
            return secondOf(JOINTS, joint);
        }

        boolean isGround(int joint) {
            return kindOf(JOINTS, joint) == GROUND;
        }

        int grounds() {
            int grounds = 0;
            for (int i = 0; i < sizes[JOINTS]; i++) {
                if (isGround(i)) {
                    grounds++;
                }
            }
            return grounds;
        }

        /** The JOINT at the other end of a BAR; NONE: the BAR does not end at this one. */
        int acrossBar(int bar, int joint) {
            int a = firstOf(BARS, bar);
            int b = secondOf(BARS, bar);
            if (a == joint) {
                return b;
            }
            return b == joint ? a : NONE;
        }

        boolean hasBar(int a, int b) {
            for (int i = 0; i < sizes[BARS]; i++) {
                if (acrossBar(i, a) == b) {
                    return true;
                }
            }
            return false;
        }

        /** The square of how far two JOINTS are told to be apart. */
        int squareApart(int a, int b) {
            int dx = x(a) - x(b);
            int dy = y(a) - y(b);
            return dx * dx + dy * dy;
        }

        /** Of a BAR its length, DOWN, of a WHEEL its TEETH, else 0. */
        int sizeOf(int part) {
            switch (kinds[part]) {
                case BAR: return (int) rootDown(squareApart(firsts[part], seconds[part]));
                case WHEEL: return seconds[part];
                default: return 0;
            }
        }

        boolean isOfKind(int part, int kind) {
            int tried = kinds[part];
            for (int i = 0; i < KINDS && tried != NONE; i++) {
                if (tried == kind) {
                    return true;
                }
                tried = WIDER_KIND[tried];
            }
            return false;
        }
    }

    /** THE TAPE, its TOKENS, and the reading of STATEMENTS up to the first FAULT. */
    private static final class Reader {
        private static final int MOST_BYTES = 1200, LONGEST_NAME = 6, MOST_FIGURES = 4;
        private static final String WORDS = "ground joint bar chain frame wheel at mesh belt shaft drive about ";
        private static final int WORD_COUNT = 12;
        private static final int GROUND_WORD = 0, JOINT_WORD = 1, BAR_WORD = 2, CHAIN_WORD = 3, FRAME_WORD = 4,
            WHEEL_WORD = 5, AT_WORD = 6, MESH_WORD = 7, BELT_WORD = 8, SHAFT_WORD = 9, DRIVE_WORD = 10, ABOUT_WORD = 11;
        private static final int END = 0, WRONG = 1, WORD = 2, NAME = 3, NUMBER = 4, SIGN = 5;
        private static final int NO_TOKEN = 1, MISPLACED = 2, TOLD_ALREADY = 3, UNKNOWN = 4, OUT_OF_BOUNDS = 5,
            TOO_MANY = 6, BAD_PAIR = 7, BAD_DRIVE = 8;
        private static final int FARTHEST = 1000, LEAST_TEETH = 3, MOST_TEETH = 200;

        private final byte[] tape = new byte[MOST_BYTES];
        private int length;
        private final int[] wordCodes = new int[WORD_COUNT];
        /** Not the LINKAGE in use, which a FAULT must leave as it is. */
        private Linkage linkage = new Linkage();
        private int position;
        private int token;
        private int tokenStart;
        /** Of a WORD its number, of a NAME its letters as one number, of a NUMBER itself. */
        private int value;
        private int fault;
        private int faultPlace = NONE;

        Reader() {
            int word = 0;
            int code = 0;
            for (int i = 0; i < WORDS.length() && word < WORD_COUNT; i++) {
                if (WORDS.charAt(i) == ' ') {
                    wordCodes[word] = code;
                    word++;
                    code = 0;
                } else {
                    code = withLetter(code, WORDS.charAt(i));
                }
            }
        }

        int append(int n, long bytes) {
            if (length + n > MOST_BYTES) {
                return FULL;
            }
            for (int i = 0; i < n; i++) {
                tape[length] = (byte) (bytes >>> (8 * i));
                length++;
            }
            return length;
        }

        /** The FAULT's number; 0: there is none. */
        int readTape() {
            linkage.clear();
            position = 0;
            fault = 0;
            faultPlace = NONE;
            for (int i = 0; i <= MOST_BYTES && fault == 0; i++) {
                next();
                if (token == END) {
                    break;
                }
                statement();
            }
            length = 0;
            return fault;
        }

        /** Gives what was read away, and takes an old LINKAGE to read the next text into. */
        Linkage exchange(Linkage old) {
            Linkage fresh = linkage;
            linkage = old;
            return fresh;
        }

        // TOKENS

        private void next() {
            while (position < length && (tape[position] == ' ' || tape[position] == '\n')) {
                position++;
            }
            tokenStart = position;
            if (position >= length) {
                token = END;
            } else if (isLetterAt(position)) {
                letters();
            } else if (isFigureAt(position) || tape[position] == '-') {
                figures();
            } else {
                token = tape[position] == ';' ? SIGN : WRONG;
                position++;
            }
        }

        private void letters() {
            value = 0;
            while (position < length && isLetterAt(position)) {
                value = withLetter(value, tape[position]);
                position++;
            }
            token = position - tokenStart > LONGEST_NAME ? WRONG : NAME;
            for (int i = 0; i < WORD_COUNT && token == NAME; i++) {
                if (wordCodes[i] == value) {
                    token = WORD;
                    value = i;
                }
            }
        }

        private void figures() {
            boolean below = tape[position] == '-';
            if (below) {
                position++;
            }
            int firstFigure = position;
            value = 0;
            while (position < length && isFigureAt(position)) {
                value = 10 * value + (tape[position] - '0');
                position++;
            }
            int count = position - firstFigure;
            token = count >= 1 && count <= MOST_FIGURES ? NUMBER : WRONG;
            if (below) {
                value = -value;
            }
        }

        private boolean isLetterAt(int i) {
            return tape[i] >= 'a' && tape[i] <= 'z';
        }

        private boolean isFigureAt(int i) {
            return tape[i] >= '0' && tape[i] <= '9';
        }

        /** Six letters fit into an int this way, and no two rows of them are alike. */
        private static int withLetter(int code, int letter) {
            return 27 * code + (letter - 'a' + 1);
        }

        // STATEMENTS. Behind a FAULT no helper reads on, so the first one stays.

        private void fail(int number) {
            if (fault == 0) {
                fault = number;
                faultPlace = tokenStart;
            }
        }

        private void failUnfit() {
            fail(token == WRONG ? NO_TOKEN : MISPLACED);
        }

        private void statement() {
            if (token != WORD) {
                failUnfit();
                return;
            }
            switch (value) {
                case GROUND_WORD: joint(GROUND); break;
                case JOINT_WORD: joint(PIN); break;
                case BAR_WORD: oneBar(); break;
                case CHAIN_WORD: manyBars(2, false); break;
                case FRAME_WORD: manyBars(3, true); break;
                case WHEEL_WORD: wheel(); break;
                case MESH_WORD: coupling(MESH); break;
                case BELT_WORD: coupling(BELT); break;
                case SHAFT_WORD: coupling(SHAFT); break;
                case DRIVE_WORD: drive(); break;
                default: failUnfit(); break;
            }
        }

        private void joint(int kind) {
            int name = newName(JOINTS);
            int x = number(-FARTHEST, FARTHEST);
            int y = number(-FARTHEST, FARTHEST);
            expectSign();
            if (fault == 0) {
                linkage.add(kind, name, x, y);
            }
        }

        private void oneBar() {
            int a = knownName(JOINTS);
            int b = knownName(JOINTS);
            addBar(a, b);
            expectSign();
        }

        private void manyBars(int leastNames, boolean isClosed) {
            int first = knownName(JOINTS);
            int last = first;
            for (int names = 1; names <= MOST_BYTES && fault == 0; names++) {
                next();
                if (token == SIGN && names >= leastNames) {
                    if (isClosed) {
                        addBar(last, first);
                    }
                    return;
                }
                int joint = knownHere(JOINTS);
                addBar(last, joint);
                last = joint;
            }
        }

        private void addBar(int a, int b) {
            if (fault != 0) {
                return;
            }
            if (linkage.isFull(BARS)) {
                fail(TOO_MANY);
            } else if (linkage.squareApart(a, b) == 0 || linkage.hasBar(a, b)) {
                fail(BAD_PAIR);
            } else {
                linkage.add(BAR, 0, a, b);
            }
        }

        private void wheel() {
            int name = newName(WHEELS);
            expectWord(AT_WORD);
            int joint = knownName(JOINTS);
            int teeth = number(LEAST_TEETH, MOST_TEETH);
            expectSign();
            if (fault == 0) {
                linkage.add(WHEEL, name, joint, teeth);
            }
        }

        private void coupling(int kind) {
            int a = knownName(WHEELS);
            int b = knownName(WHEELS);
            if (fault != 0) {
                return;
            }
            if (linkage.isFull(COUPLINGS)) {
                fail(TOO_MANY);
            } else if (a == b || kind == MESH && linkage.firstOf(WHEELS, a) == linkage.firstOf(WHEELS, b)) {
                fail(BAD_PAIR);
            } else {
                linkage.add(kind, 0, a, b);
            }
            expectSign();
        }

        private void drive() {
            int driven = knownName(JOINTS);
            expectWord(ABOUT_WORD);
            int about = knownName(JOINTS);
            if (fault != 0) {
                return;
            }
            if (!linkage.isGround(about) || linkage.isGround(driven) || !linkage.hasBar(driven, about)
                    || linkage.driven != NONE) {
                fail(BAD_DRIVE);
                return;
            }
            linkage.driven = driven;
            linkage.about = about;
            expectSign();
        }

        private void expectSign() {
            if (fault != 0) {
                return;
            }
            next();
            if (token != SIGN) {
                failUnfit();
            }
        }

        private void expectWord(int word) {
            if (fault != 0) {
                return;
            }
            next();
            if (token != WORD || value != word) {
                failUnfit();
            }
        }

        private int newName(int family) {
            if (fault != 0) {
                return NONE;
            }
            next();
            if (token != NAME) {
                failUnfit();
            } else if (linkage.numberOf(JOINTS, value) != NONE || linkage.numberOf(WHEELS, value) != NONE) {
                fail(TOLD_ALREADY);
            } else if (linkage.isFull(family)) {
                fail(TOO_MANY);
            }
            return value;
        }

        private int knownName(int family) {
            if (fault != 0) {
                return NONE;
            }
            next();
            return knownHere(family);
        }

        private int knownHere(int family) {
            if (token != NAME) {
                failUnfit();
                return NONE;
            }
            int number = linkage.numberOf(family, value);
            if (number == NONE) {
                fail(UNKNOWN);
            }
            return number;
        }

        private int number(int least, int most) {
            if (fault != 0) {
                return NONE;
            }
            next();
            if (token != NUMBER) {
                failUnfit();
            } else if (value < least || value > most) {
                fail(OUT_OF_BOUNDS);
            }
            return value;
        }
    }

    /**
     * COUNTS by the pebble game: each JOINT has two pebbles, each NEEDED ITEM lies under one of an
     * end of it; a further ITEM is NEEDED just if all four pebbles of its ends can be got free.
     */
    private static final class Counts {
        /** Where a pebble's ITEM leads; NONE: the pebble is free. */
        private final int[][] leads = new int[MOST_JOINTS][2];
        private final int[] cameFrom = new int[MOST_JOINTS];
        private final int[] queue = new int[MOST_JOINTS];
        private final boolean[] neededBar = new boolean[MOST_BARS];
        /** Of each JOINT a bit for each one that it is TOGETHER with. */
        private final int[] togetherBits = new int[MOST_JOINTS];
        private final int[] leastBar = new int[MOST_BARS];
        private int ties;
        private int neededItems;
        private int mobility;
        private int clusters;

        void work(Linkage linkage) {
            int joints = linkage.size(JOINTS);
            for (int i = 0; i < MOST_JOINTS; i++) {
                Arrays.fill(leads[i], NONE);
            }
            ties = 0;
            neededItems = 0;
            offerTies(linkage);
            for (int i = 0; i < linkage.size(BARS); i++) {
                neededBar[i] = offer(linkage.firstOf(BARS, i), linkage.secondOf(BARS, i));
            }
            mobility = joints < 2 ? 0 : 2 * joints - 3 - neededItems;
            findTogether(joints);
            findClusters(linkage);
        }

        boolean areTogether(int a, int b) {
            return (togetherBits[a] >> b & 1) != 0;
        }

        private void offerTies(Linkage linkage) {
            int first = NONE;
            int second = NONE;
            for (int i = 0; i < linkage.size(JOINTS); i++) {
                if (!linkage.isGround(i)) {
                    continue;
                }
                if (first == NONE) {
                    first = i;
                } else if (second == NONE) {
                    second = i;
                    offer(first, second);
                    ties = 1;
                } else {
                    offer(i, first);
                    offer(i, second);
                    ties += 2;
                }
            }
        }

        /** Takes an ITEM up, if it is NEEDED. */
        private boolean offer(int a, int b) {
            if (!wouldBeNeeded(a, b)) {
                return false;
            }
            leads[a][0] = b;
            neededItems++;
            return true;
        }

        /** Whether an ITEM between two JOINTS would be NEEDED; pebbles move, what they say stays. */
        private boolean wouldBeNeeded(int a, int b) {
            for (int i = 0; i < 2 && freePebbles(a) < 2; i++) {
                fetch(a, a);
            }
            for (int i = 0; i < 2 && freePebbles(b) < 2; i++) {
                fetch(b, a);
            }
            return freePebbles(a) == 2 && freePebbles(b) == 2;
        }

        private int freePebbles(int joint) {
            return (leads[joint][0] == NONE ? 1 : 0) + (leads[joint][1] == NONE ? 1 : 0);
        }

        /** One more free pebble comes to a JOINT, if one can, and none of those that another holds. */
        private void fetch(int joint, int holder) {
            Arrays.fill(cameFrom, NONE);
            cameFrom[joint] = joint;
            cameFrom[holder] = holder;
            queue[0] = joint;
            int queued = 1;
            for (int i = 0; i < queued && i < MOST_JOINTS; i++) {
                for (int pebble = 0; pebble < 2; pebble++) {
                    int next = leads[queue[i]][pebble];
                    if (next == NONE || cameFrom[next] != NONE) {
                        continue;
                    }
                    cameFrom[next] = queue[i];
                    if (freePebbles(next) > 0) {
                        turnPath(joint, next);
                        return;
                    }
                    queue[queued] = next;
                    queued++;
                }
            }
        }

        /** Each ITEM of the path found goes under the pebble of its far end. */
        private void turnPath(int start, int end) {
            int at = end;
            for (int i = 0; i < MOST_JOINTS && at != start; i++) {
                int before = cameFrom[at];
                leads[at][leads[at][0] == NONE ? 0 : 1] = before;
                leads[before][leads[before][0] == at ? 0 : 1] = NONE;
                at = before;
            }
        }

        private void findTogether(int joints) {
            Arrays.fill(togetherBits, 0);
            for (int a = 0; a < joints; a++) {
                togetherBits[a] |= 1 << a;
                for (int b = 0; b < a; b++) {
                    if (!wouldBeNeeded(a, b)) {
                        togetherBits[a] |= 1 << b;
                        togetherBits[b] |= 1 << a;
                    }
                }
            }
        }

        private void findClusters(Linkage linkage) {
            clusters = 0;
            for (int bar = 0; bar < linkage.size(BARS); bar++) {
                leastBar[bar] = bar;
                for (int other = 0; other < bar && leastBar[bar] == bar; other++) {
                    if (areOneCluster(linkage, bar, other)) {
                        leastBar[bar] = other;
                    }
                }
                if (leastBar[bar] == bar) {
                    clusters++;
                }
            }
        }

        private boolean areOneCluster(Linkage linkage, int bar, int other) {
            int ends = 1 << linkage.firstOf(BARS, bar) | 1 << linkage.secondOf(BARS, bar);
            int both = togetherBits[linkage.firstOf(BARS, other)] & togetherBits[linkage.secondOf(BARS, other)];
            return (both & ends) == ends;
        }
    }

    /** THE MATRIX in its reduced form, modulo a prime. */
    private static final class Matrix {
        private static final int PRIME = 1000003;
        private static final int MOST_COLUMNS = 2 * MOST_JOINTS;

        private final int[][] cells = new int[MOST_BARS][MOST_COLUMNS];
        private int rows;
        private int columns;
        private int rank;
        /** The x column of each JOINT; NONE of GROUND. */
        private final int[] columnOfJoint = new int[MOST_JOINTS];
        /** The row that leads in each column; NONE: the column is FREE. */
        private final int[] leader = new int[MOST_COLUMNS];
        private final int[] freeColumns = new int[MOST_COLUMNS];

        void work(Linkage linkage) {
            layColumns(linkage);
            rows = linkage.size(BARS);
            for (int row = 0; row < rows; row++) {
                int a = linkage.firstOf(BARS, row);
                int b = linkage.secondOf(BARS, row);
                int dx = linkage.x(a) - linkage.x(b);
                int dy = linkage.y(a) - linkage.y(b);
                Arrays.fill(cells[row], 0);
                write(row, a, dx, dy);
                write(row, b, -dx, -dy);
            }
            reduce();
        }

        int motionAt(int k, int joint, int axis) {
            int column = columnOfJoint[joint];
            if (column == NONE) {
                return 0;
            }
            column += axis;
            int row = leader[column];
            if (row == NONE) {
                return column == freeColumns[k] ? 1 : 0;
            }
            return Math.floorMod(-cells[row][freeColumns[k]], PRIME);
        }

        private void layColumns(Linkage linkage) {
            columns = 0;
            for (int i = 0; i < linkage.size(JOINTS); i++) {
                columnOfJoint[i] = NONE;
                if (!linkage.isGround(i)) {
                    columnOfJoint[i] = columns;
                    columns += 2;
                }
            }
        }

        private void write(int row, int joint, int dx, int dy) {
            int column = columnOfJoint[joint];
            if (column != NONE) {
                cells[row][column] = Math.floorMod(dx, PRIME);
                cells[row][column + 1] = Math.floorMod(dy, PRIME);
            }
        }

        private void reduce() {
            rank = 0;
            for (int column = 0; column < columns; column++) {
                int row = rowToLead(column);
                leader[column] = row == NONE ? NONE : rank;
                if (row == NONE) {
                    freeColumns[column - rank] = column;
                    continue;
                }
                int[] lead = cells[row];
                cells[row] = cells[rank];
                cells[rank] = lead;
                makeLead(column);
                rank++;
            }
        }

        private int rowToLead(int column) {
            for (int row = rank; row < rows; row++) {
                if (cells[row][column] != 0) {
                    return row;
                }
            }
            return NONE;
        }

        /** Row rank gets 1 in a column, all other rows 0. */
        private void makeLead(int column) {
            int[] lead = cells[rank];
            long inverse = inverseOf(lead[column]);
            for (int i = column; i < columns; i++) {
                lead[i] = (int) (lead[i] * inverse % PRIME);
            }
            for (int row = 0; row < rows; row++) {
                int[] other = cells[row];
                long times = PRIME - other[column];
                if (row == rank || times == PRIME) {
                    continue;
                }
                for (int i = column; i < columns; i++) {
                    other[i] = (int) ((other[i] + times * lead[i]) % PRIME);
                }
            }
        }

        /** By Fermat: the power PRIME - 2. */
        private static long inverseOf(long number) {
            long power = number;
            long inverse = 1;
            for (int left = PRIME - 2; left > 0; left >>= 1) {
                if ((left & 1) != 0) {
                    inverse = inverse * power % PRIME;
                }
                power = power * power % PRIME;
            }
            return inverse;
        }
    }

    /** Places of all JOINTS at a STEP, in 1024ths, and why one has none. */
    private static final class Places {
        private final long[] x = new long[MOST_JOINTS];
        private final long[] y = new long[MOST_JOINTS];
        /** 0: the JOINT is placed. */
        private final int[] reason = new int[MOST_JOINTS];

        void set(int joint, long atX, long atY) {
            x[joint] = atX;
            y[joint] = atY;
            reason[joint] = 0;
        }

        int howMany(int joints) {
            int placed = 0;
            for (int i = 0; i < joints; i++) {
                if (reason[i] == 0) {
                    placed++;
                }
            }
            return placed;
        }
    }

    /** ORDER, SIDES, and the placing of JOINTS at a STEP. */
    private static final class Turning {
        private static final int LOOSE = 1, NO_MEET = 2, HANGS_ON_NONE = 3;
        private static final int UNIT = 1024, QUARTER = 64;
        private static final long SQUARE_UNIT = 1L << 20, SCALE = 1L << 16, FARTHEST_FOOT = 1L << 28;

        private final int[] sequence = new int[MOST_JOINTS];
        private int hanging;
        private final boolean[] isThere = new boolean[MOST_JOINTS];
        /** A and B of each JOINT that HANGS; NONE of the others. */
        private final int[] onA = new int[MOST_JOINTS];
        private final int[] onB = new int[MOST_JOINTS];
        private final int[] side = new int[MOST_JOINTS];
        /** The squares of the lengths of the BARS to A and B, in 1024ths. */
        private final long[] squareToA = new long[MOST_JOINTS];
        private final long[] squareToB = new long[MOST_JOINTS];

        void work(Linkage linkage) {
            hanging = 0;
            int joints = linkage.size(JOINTS);
            for (int i = 0; i < joints; i++) {
                isThere[i] = linkage.isGround(i) || i == linkage.driven;
                onA[i] = NONE;
                onB[i] = NONE;
            }
            for (int i = 0; i < joints && linkage.driven != NONE; i++) {
                int joint = nextToCome(linkage);
                if (joint == NONE) {
                    break;
                }
                isThere[joint] = true;
                side[joint] = toldSide(linkage, joint);
                squareToA[joint] = SQUARE_UNIT * linkage.squareApart(joint, onA[joint]);
                squareToB[joint] = SQUARE_UNIT * linkage.squareApart(joint, onB[joint]);
                sequence[hanging] = joint;
                hanging++;
            }
        }

        private int nextToCome(Linkage linkage) {
            for (int i = 0; i < linkage.size(JOINTS); i++) {
                if (!isThere[i] && canHang(linkage, i)) {
                    return i;
                }
            }
            return NONE;
        }

        private boolean canHang(Linkage linkage, int joint) {
            int a = NONE;
            for (int bar = 0; bar < linkage.size(BARS); bar++) {
                int other = linkage.acrossBar(bar, joint);
                if (other == NONE || !isThere[other]) {
                    continue;
                }
                if (a != NONE) {
                    onA[joint] = a;
                    onB[joint] = other;
                    return true;
                }
                a = other;
            }
            return false;
        }

        private int toldSide(Linkage linkage, int joint) {
            int a = onA[joint];
            int b = onB[joint];
            int across = (linkage.x(b) - linkage.x(a)) * (linkage.y(joint) - linkage.y(a))
                - (linkage.y(b) - linkage.y(a)) * (linkage.x(joint) - linkage.x(a));
            return across >= 0 ? 1 : -1;
        }

        /** How many JOINTS of ORDER must be placed for one to be. */
        int depthOf(int joint) {
            for (int i = 0; i < hanging; i++) {
                if (sequence[i] == joint) {
                    return i + 1;
                }
            }
            return 0;
        }

        /** Places GROUND, the DRIVEN JOINT and the first ones of ORDER; there is a DRIVEN JOINT. */
        void arrange(Linkage linkage, int step, int howManyHang, Places places) {
            for (int i = 0; i < linkage.size(JOINTS); i++) {
                places.reason[i] = LOOSE;
                if (linkage.isGround(i)) {
                    places.set(i, UNIT * linkage.x(i), UNIT * linkage.y(i));
                }
            }
            placeDriven(linkage, step, places);
            for (int i = 0; i < howManyHang; i++) {
                hang(sequence[i], places);
            }
        }

        private void placeDriven(Linkage linkage, int step, Places places) {
            int m = step % QUARTER;
            int c = 65536 * (4096 - m * m) / (4096 + m * m);
            int d = 8388608 * m / (4096 + m * m);
            for (int i = 0; i < step / QUARTER; i++) {
                int oldC = c;
                c = -d;
                d = oldC;
            }
            int driven = linkage.driven;
            int about = linkage.about;
            int u = linkage.x(driven) - linkage.x(about);
            int v = linkage.y(driven) - linkage.y(about);
            places.set(driven, places.x[about] + Math.floorDiv(c * u - d * v, 64),
                places.y[about] + Math.floorDiv(d * u + c * v, 64));
        }

        private void hang(int joint, Places places) {
            int a = onA[joint];
            int b = onB[joint];
            if (places.reason[a] != 0 || places.reason[b] != 0) {
                places.reason[joint] = HANGS_ON_NONE;
                return;
            }
            places.reason[joint] = NO_MEET;
            long w = places.x[b] - places.x[a];
            long z = places.y[b] - places.y[a];
            long span = w * w + z * z;
            if (span < SQUARE_UNIT) {
                return;
            }
            long p = squareToA[joint];
            long q = squareToB[joint];
            // 65536 (p - q + D) / (2 D), with the part that is whole taken out ahead: it would not fit.
            long foot = SCALE / 2 + Math.floorDiv(SCALE / 2 * (p - q), span);
            if (foot < -FARTHEST_FOOT || foot > FARTHEST_FOOT) {
                return;
            }
            long rest = squareScaled(p, span) - foot * foot;
            if (rest < 0) {
                return;
            }
            long height = side[joint] * rootDown(rest);
            places.set(joint, places.x[a] + Math.floorDiv(foot * w - height * z, SCALE),
                places.y[a] + Math.floorDiv(foot * z + height * w, SCALE));
        }

        /**
         * 2^32 p / span, DOWN, by long division of 8 bits each time: no two JOINTS get 2^27 apart,
         * so span stays below 2^55 and what is left over, times 256, fits.
         */
        private static long squareScaled(long p, long span) {
            if (span <= 0) {
                return 0;
            }
            long whole = p / span;
            long left = p % span;
            for (int i = 0; i < 4; i++) {
                left *= 256;
                whole = 256 * whole + left / span;
                left %= span;
            }
            return whole;
        }
    }

    /** THE CURVE: places of one JOINT at all STEPS. */
    private static final class Curve {
        private boolean drawn;
        private int howMany;
        private final long[] x = new long[STEPS];
        private final long[] y = new long[STEPS];
        private final boolean[] isPlaced = new boolean[STEPS];
        private final Places places = new Places();

        void draw(Linkage linkage, Turning turning, int joint) {
            int depth = turning.depthOf(joint);
            drawn = true;
            howMany = 0;
            for (int step = 0; step < STEPS; step++) {
                turning.arrange(linkage, step, depth, places);
                isPlaced[step] = places.reason[joint] == 0;
                x[step] = places.x[joint];
                y[step] = places.y[joint];
                if (isPlaced[step]) {
                    howMany++;
                }
            }
        }

        /** An item of these says something only where the STEP is placed. */
        long[] valuesOf(int axis) {
            return axis == 0 ? x : y;
        }

        int beginnings() {
            int beginnings = 0;
            boolean before = isPlaced[STEPS - 1];
            for (int step = 0; step < STEPS; step++) {
                if (isPlaced[step] && !before) {
                    beginnings++;
                }
                before = isPlaced[step];
            }
            return beginnings;
        }

        /** The first STEP at which an axis is greatest (way 1) or least (way -1). */
        int firstFarthest(int axis, int way) {
            long[] values = valuesOf(axis);
            int best = NONE;
            for (int step = 0; step < STEPS; step++) {
                if (isPlaced[step] && (best == NONE || way * values[step] > way * values[best])) {
                    best = step;
                }
            }
            return best;
        }
    }

    /** RATIOS of WHEELS to one of them, reached through COUPLINGS. */
    private static final class Train {
        private static final int NOT_YET = 0, EXACT = 1, GREAT = 2;
        private static final long GREATEST = 1000000000000L;

        private final int[] reached = new int[MOST_WHEELS];
        private final long[] upper = new long[MOST_WHEELS];
        private final long[] lower = new long[MOST_WHEELS];
        private final boolean[] isSettled = new boolean[MOST_WHEELS];
        private long nextUpper;
        private long nextLower;

        void spread(Linkage linkage, int start) {
            Arrays.fill(reached, NOT_YET);
            reached[start] = EXACT;
            upper[start] = 1;
            lower[start] = 1;
            for (int i = 0; i < MOST_WHEELS; i++) {
                int coupling = firstToReach(linkage);
                if (coupling == NONE) {
                    break;
                }
                reachThrough(linkage, coupling);
            }
        }

        int firstLock(Linkage linkage) {
            int first = NONE;
            for (int i = 0; i < MOST_WHEELS; i++) {
                isSettled[i] = false;
            }
            for (int wheel = 0; wheel < linkage.size(WHEELS); wheel++) {
                if (isSettled[wheel]) {
                    continue;
                }
                spread(linkage, wheel);
                for (int i = 0; i < MOST_WHEELS; i++) {
                    isSettled[i] |= reached[i] != NOT_YET;
                }
                int lock = firstNotHeld(linkage);
                if (lock != NONE && (first == NONE || lock < first)) {
                    first = lock;
                }
            }
            return first;
        }

        private int firstToReach(Linkage linkage) {
            for (int i = 0; i < linkage.size(COUPLINGS); i++) {
                boolean isFirst = reached[linkage.firstOf(COUPLINGS, i)] != NOT_YET;
                boolean isSecond = reached[linkage.secondOf(COUPLINGS, i)] != NOT_YET;
                if (isFirst != isSecond) {
                    return i;
                }
            }
            return NONE;
        }

        private void reachThrough(Linkage linkage, int coupling) {
            int from = linkage.firstOf(COUPLINGS, coupling);
            int to = linkage.secondOf(COUPLINGS, coupling);
            if (reached[from] == NOT_YET) {
                int first = from;
                from = to;
                to = first;
            }
            if (reached[from] == GREAT) {
                reached[to] = GREAT;
                return;
            }
            carry(linkage, linkage.kindOf(COUPLINGS, coupling), from, to);
            upper[to] = nextUpper;
            lower[to] = nextLower;
            reached[to] = Math.abs(nextUpper) > GREATEST || nextLower > GREATEST ? GREAT : EXACT;
        }

        private int firstNotHeld(Linkage linkage) {
            for (int i = 0; i < linkage.size(COUPLINGS); i++) {
                int a = linkage.firstOf(COUPLINGS, i);
                int b = linkage.secondOf(COUPLINGS, i);
                if (reached[a] != EXACT || reached[b] != EXACT) {
                    continue;
                }
                carry(linkage, linkage.kindOf(COUPLINGS, i), a, b);
                if (nextUpper != upper[b] || nextLower != lower[b]) {
                    return i;
                }
            }
            return NONE;
        }

        /** What a COUPLING makes of one WHEEL's RATIO at the other one, in least terms. */
        private void carry(Linkage linkage, int kind, int from, int to) {
            nextUpper = upper[from];
            nextLower = lower[from];
            if (kind == SHAFT) {
                return;
            }
            nextUpper *= linkage.secondOf(WHEELS, from);
            nextLower *= linkage.secondOf(WHEELS, to);
            if (kind == MESH) {
                nextUpper = -nextUpper;
            }
            long common = commonDivisor(Math.abs(nextUpper), nextLower);
            if (common > 1) {
                nextUpper /= common;
                nextLower /= common;
            }
        }

        private static long commonDivisor(long a, long b) {
            long greater = a;
            long less = b;
            for (int i = 0; i < 100 && less != 0; i++) {
                long left = greater % less;
                greater = less;
                less = left;
            }
            return greater;
        }
    }

    /** ASKS of one PART, and THE TRACE of the BODIES that begin. */
    private static final class Asks {
        private static final int LONGEST_TRACE = 16;

        private final int[] bodies = new int[LONGEST_TRACE];
        private int begun;
        private boolean byNought;
        private int kind;
        private int size;

        void start(int ofKind, int ofSize) {
            kind = ofKind;
            size = ofSize;
            begun = 0;
            byNought = false;
        }

        int freedom() {
            switch (kind) {
                case PIN:
                    return pinFreedom();
                case GROUND:
                    begin(12);
                    return pinFreedom() - 2;
                case BAR:
                    begin(13);
                    return lentFreedom() - 1;
                case WHEEL:
                    begin(14);
                    return 1;
                default:
                    begin(15);
                    return lentFreedom() - 1;
            }
        }

        int mass() {
            switch (kind) {
                case BAR:
                    begin(21);
                    return size;
                case WHEEL:
                    begin(22);
                    return size;
                case BELT:
                case SHAFT:
                    return beltMass();
                default:
                    return lentMass();
            }
        }

        int loss() {
            switch (kind) {
                case GROUND:
                    begin(31);
                    return mass() + lentLoss();
                case SHAFT:
                    begin(32);
                    return 3 * beltMass();
                default:
                    return lentLoss();
            }
        }

        private void begin(int body) {
            if (begun < LONGEST_TRACE) {
                bodies[begun] = body;
                begun++;
            }
        }

        private int lentFreedom() {
            begin(10);
            return 0;
        }

        private int pinFreedom() {
            begin(11);
            return 2;
        }

        private int lentMass() {
            begin(20);
            return 1;
        }

        private int beltMass() {
            begin(23);
            return lentMass() + 5;
        }

        private int lentLoss() {
            begin(30);
            int freedom = freedom();
            if (freedom == 0) {
                byNought = true;
                return 0;
            }
            return 1000 / freedom;
        }
    }

    /** A ROW: its ITEMS are held as longs, cut to the LANE as they come. */
    private static final class Row {
        private boolean isThere;
        private int lane;
        private int size;
        private final long[] items = new long[MOST_ITEMS];

        void renew(int newLane, int n) {
            isThere = true;
            lane = newLane;
            size = n;
            Arrays.fill(items, 0);
        }

        long store(int i, long v) {
            items[i] = cutToLane(v);
            return items[i];
        }

        /** Whether n ITEMS from i on lie within; with none, i may be the end. */
        boolean holds(int i, int n) {
            return i >= 0 && n >= 0 && (long) i + n <= size;
        }

        long mixedInto(long h) {
            if (!isThere) {
                return 31 * h;
            }
            long mixed = 31 * h + lane + 1;
            for (int i = 0; i < size; i++) {
                mixed = 31 * mixed + items[i];
            }
            return mixed;
        }

        private long cutToLane(long v) {
            switch (lane) {
                case 0: return (byte) v;
                case 1: return (short) v;
                case 2: return (int) v;
                default: return v;
            }
        }
    }
}
