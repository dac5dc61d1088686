import java.util.Arrays;

/** A printer whose letters go round on a chain past a row of hammers. */
public final class TypeChain {
    public static final int BAD = -1, STATE = -2, FULL = -3, NONE = -4;

    private static final int SEEN_BAD = -10, SEEN_STATE = -12;
    private static final int TWICE_BAD = -1000000, TWICE_STATE = -1000002, TWICE_NONE = -1000004;

    private static final int BLANK = 0, LAST_LETTER = 26;
    private static final int FEWEST_SLUGS = 2, MOST_SLUGS = 48, MOST_SLUGS_ORDERED = 6;
    private static final int ORDERS_OF_SLUGS = 720;
    private static final int MOST_COLUMNS = 40, MOST_ROWS = 60, CHANNELS = 8, MOST_POWER = 40;
    private static final int MOST_ORDERS = 24, MOST_BYTES = 240, MOST_SPACE = 9;
    private static final int LAST_TICK = 1000000, MOST_LATE = 20;
    private static final int SHEETS = 4, LANES = 3, MOST_CELLS = 40;

    /** What a call adds a FAULT or a place to: -10 less it. Cells that are no letters start at -20. */
    private static final int FAULTY = -10, NO_LETTER = -20;
    private static final int NULL = 1, INDEX = 2, CAST = 3, SIZE = 4;

    /** What begins a line of the text. The first eight are also the numbers of rule(). */
    private static final int CHAIN = 0, PITCH = 1, GAP = 2, COLUMNS = 3, POWER = 4, START = 5, STEP = 6;
    private static final int ROWS = 7, HOLE = 8, PUT = 9, GO = 10, SPACE = 11, SKIP = 12;
    private static final int WORD_COUNT = SKIP + 1, WORD_LENGTH = 7, RULE_ORDERS = 8;
    private static final String WORDS =
        "chain  pitch  gap    columnspower  start  step   rows   hole   put    go     space  skip   ";

    /** Bounds of the first NUMBER behind each word, and what holds if the text does not tell it. */
    private static final int[] LOW = {0, 2, 1, 1, 1, 0, 1, 1, 0, 0, 0, 0, 0};
    private static final int[] HIGH = {0, 6, 6, 40, 40, 20, 20, 60, 59, 39, 0, 9, 7};
    private static final int[] AT_FIRST = {6, 3, 2, 20, 40, 3, 2, 12};

    /** Kinds of TOKENS beside the two signs, which stand for themselves. */
    private static final int END = 0, NAME = 1, NUMBER = 2, NO_TOKEN = 3;

    /** Lines of hole and put on one tape: each has 7 bytes at least. */
    private static final int MOST_REACHES = MOST_BYTES / 7;

    private Rules rules = new Rules();
    private Rules draft = new Rules();
    private final Reader reader = new Reader();
    private final Page paper = new Page();
    private final Printer printer = new Printer(paper, rules, rules.chain);
    private final Trials trials = new Trials(rules);
    private final Sheets sheets = new Sheets();
    private boolean wasRun;
    private int ranTicks, ranLines, ranEnd;

    public TypeChain() {
    }

    // ---- the text

    public int feed(long v) {
        return reader.append(v) ? reader.length : FULL;
    }

    public int end(int n) {
        if (n < 0 || n > reader.length) {
            return BAD;
        }
        int had = reader.length;
        reader.length = n;
        return had;
    }

    public int text() {
        boolean taken = reader.readInto(draft);
        reader.length = 0;
        if (!taken) {
            return FAULTY - reader.faultPlace;
        }
        Rules old = rules;
        rules = draft;
        draft = old;
        takeRules();
        return reader.lines;
    }

    public int fault() {
        return reader.fault;
    }

    public int rule(int what) {
        if (what < 0 || what > RULE_ORDERS) {
            return BAD;
        }
        if (what == RULE_ORDERS) {
            return rules.program.size;
        }
        return what == CHAIN ? rules.chain.size : rules.values[what];
    }

    public int slug(int i) {
        return i < 0 || i >= rules.chain.size ? BAD : rules.chain.letters[i];
    }

    public int holes(int row) {
        return isRow(row) ? rules.channels[row] : BAD;
    }

    public int order(int k, int what) {
        Program program = rules.program;
        if (k < 0 || k >= program.size) {
            return BAD;
        }
        switch (what) {
            case 0: return program.kinds[k] - PUT;
            case 1: return program.numbers[k];
            case 2: return program.lengths[k];
            default: return what < 10 || what - 10 >= program.lengths[k] ? BAD : program.letterOf(k, what - 10);
        }
    }

    // ---- the chain

    public int faces(int c, int t) {
        if (!isColumn(c) || !isTick(t)) {
            return BAD;
        }
        return rules.chain.letterFacing(c, t);
    }

    public int comes(int c, int letter, int t) {
        if (!isColumn(c) || !isLetter(letter) || !isTick(t)) {
            return BAD;
        }
        return rules.chain.nextTick(c, letter, t);
    }

    public int late(int c, int letter, int d) {
        if (!isColumn(c) || !isLetter(letter) || d < -MOST_LATE || d > MOST_LATE) {
            return BAD;
        }
        int due = rules.chain.nextTick(c, letter, printer.tick);
        if (due == NONE) {
            return NONE;
        }
        if (due + d < 0) {
            return STATE;
        }
        int hit = rules.chain.letterFacing(c, due + d);
        return hit == NONE ? BLANK : hit;
    }

    // ---- lines

    public int put(int c, int letter) {
        if (!isColumn(c) || letter != BLANK && !isLetter(letter)) {
            return BAD;
        }
        int was = printer.letters[c];
        printer.letters[c] = letter;
        return was;
    }

    public int line(int c) {
        return isColumn(c) ? printer.letters[c] : BAD;
    }

    public int ticks(int h) {
        if (h < 1 || h > MOST_POWER) {
            return BAD;
        }
        if (!printer.canStrike()) {
            return STATE;
        }
        // struck by the hammers of the trials, the line and its record stay as they are
        return trials.printer.strike.make(rules.chain, printer.letters, rules.values[COLUMNS], h, printer.tick);
    }

    public int go() {
        return printer.strikeLine();
    }

    public int struck(int what) {
        boolean ofColumn = what >= 10 && isColumn(what - 10);
        if (!ofColumn && (what < 0 || what > 2)) {
            return BAD;
        }
        Strike strike = printer.strike;
        if (!strike.wasMade) {
            return STATE;
        }
        switch (what) {
            case 0: return strike.total;
            case 1: return strike.most;
            case 2: return Long.bitCount(strike.waited);
            default: return strike.tickOf[what - 10];
        }
    }

    public int slipped(int k, int c) {
        if (k < 0 || k >= rules.chain.size || !isColumn(c)) {
            return BAD;
        }
        Strike strike = printer.strike;
        if (!strike.wasMade) {
            return STATE;
        }
        return strike.tickOf[c] == NONE ? NONE : strike.shownAfterSlip(rules.chain, k, c);
    }

    public int seen(int c, int letter) {
        if (!isColumn(c) || letter != NONE && !isLetter(letter)) {
            return SEEN_BAD;
        }
        Strike strike = printer.strike;
        if (!strike.wasMade || strike.tickOf[c] == NONE) {
            return SEEN_STATE;
        }
        int was = strike.told[c];
        strike.told[c] = letter;
        return was;
    }

    public int slips(int what) {
        if (what != 0 && what != 1) {
            return BAD;
        }
        if (!printer.strike.wasMade) {
            return STATE;
        }
        int fitting = 0;
        int least = NONE;
        for (int k = rules.chain.size - 1; k >= 0; k--) {
            if (printer.strike.fitsSlip(rules.chain, k, rules.values[COLUMNS])) {
                fitting++;
                least = k;
            }
        }
        return what == 0 ? fitting : least;
    }

    // ---- paper

    public int space(int k) {
        return k < 0 || k > MOST_SPACE ? BAD : printer.moveBy(k);
    }

    public int skip(int channel) {
        return channel < 0 || channel >= CHANNELS ? BAD : printer.moveToHole(channel);
    }

    public int now(int what) {
        switch (what) {
            case 0: return printer.tick;
            case 1: return printer.row;
            case 2: return printer.pages;
            case 3: return paper.placesStruck(1);
            case 4: return paper.placesStruck(2);
            default: return BAD;
        }
    }

    public int page(int row, int c, int what) {
        if (!isRow(row) || !isColumn(c) || what != 0 && what != 1) {
            return BAD;
        }
        int place = row * MOST_COLUMNS + c;
        return what == 0 ? paper.letters[place] : paper.times[place];
    }

    // ---- programs

    public int run() {
        int tickBefore = printer.tick;
        int linesBefore = printer.linesStruck;
        int done = printer.runProgram();
        wasRun = true;
        ranTicks = printer.tick - tickBefore;
        ranLines = printer.linesStruck - linesBefore;
        ranEnd = done == rules.program.size ? NONE : done;
        return done;
    }

    public int ran(int what) {
        if (what < 0 || what > 2) {
            return BAD;
        }
        if (!wasRun) {
            return STATE;
        }
        switch (what) {
            case 0: return ranTicks;
            case 1: return ranLines;
            default: return ranEnd;
        }
    }

    public int best(int what) {
        if (what != 0 && (what < 10 || what >= 10 + MOST_SLUGS_ORDERED)) {
            return BAD;
        }
        if (rules.chain.size > MOST_SLUGS_ORDERED || rules.program.size == 0) {
            return STATE;
        }
        trials.findOrder(rules);
        if (trials.orderTicks == NONE) {
            return STATE;
        }
        if (what == 0) {
            return trials.orderTicks;
        }
        return what - 10 < rules.chain.size ? trials.orderLetters[what - 10] : NONE;
    }

    public int twice(int what) {
        if (what < 0 || what > 2) {
            return TWICE_BAD;
        }
        if (rules.chain.size >= MOST_SLUGS || rules.program.size == 0) {
            return TWICE_STATE;
        }
        trials.findDouble(rules);
        if (trials.doubleTicks == NONE) {
            return TWICE_STATE;
        }
        switch (what) {
            case 0: return trials.doubleLetter;
            case 1: return trials.doubleTicks;
            default: return trials.singleTicks == NONE ? TWICE_NONE : trials.singleTicks - trials.doubleTicks;
        }
    }

    // ---- sheets

    public int sheet(int k, int lane, int n) {
        if (!isSheet(k) || !isLane(lane) || n > MOST_CELLS) {
            return BAD;
        }
        if (n < 0) {
            return FAULTY - SIZE;
        }
        sheets.renew(k, lane, n);
        return 1;
    }

    public int lay(int k, int i, int v) {
        if (!isSheet(k)) {
            return BAD;
        }
        if (sheets.isNothing(k)) {
            return FAULTY - NULL;
        }
        if (!sheets.hasCell(k, i)) {
            return FAULTY - INDEX;
        }
        sheets.write(k, i, v);
        return 1;
    }

    public int read(int k, int lane, int f) {
        if (!isSheet(k) || !isLane(lane)) {
            return BAD;
        }
        if (sheets.isNothing(k)) {
            return FAULTY - NULL;
        }
        if (sheets.lanes[k] != lane) {
            return FAULTY - CAST;
        }
        int columns = rules.values[COLUMNS];
        for (int c = 0; c < columns; c++) {
            if (!sheets.hasCell(k, f + c)) {
                return FAULTY - INDEX;
            }
            int cell = sheets.valueOf(k, f + c);
            if (cell != BLANK && !isLetter(cell)) {
                return NO_LETTER - c;
            }
        }
        for (int c = 0; c < columns; c++) {
            printer.letters[c] = sheets.valueOf(k, f + c);
        }
        return printer.lettersInLine();
    }

    public int count(int what) {
        switch (what) {
            case 0: return printer.lettersInLine();
            case 1: return Integer.bitCount(rules.chain.letterSet());
            case 2: return rules.holeCount();
            case 3: return reader.length;
            case 4: return sheets.isNothing(0) ? NONE : sheets.sizes[0];
            default: return BAD;
        }
    }

    /** All that hung on the rules before is forgotten: the paper, the line, the run, what trials found. */
    private void takeRules() {
        printer.begin(rules, rules.chain);
        trials.forget();
        wasRun = false;
    }

    private boolean isColumn(int c) {
        return c >= 0 && c < rules.values[COLUMNS];
    }

    private boolean isRow(int row) {
        return row >= 0 && row < rules.values[ROWS];
    }

    private static boolean isLetter(int letter) {
        return letter >= 1 && letter <= LAST_LETTER;
    }

    private static boolean isTick(int t) {
        return t >= 0 && t <= LAST_TICK;
    }

    private static boolean isSheet(int k) {
        return k >= 0 && k < SHEETS;
    }

    private static boolean isLane(int lane) {
        return lane >= 0 && lane < LANES;
    }

    /** The slugs in their order, and how they pass the columns. */
    private static final class Chain {
        final int[] letters = new int[MOST_SLUGS];
        int size, pitch, gap;

        void copyFrom(Chain other) {
            System.arraycopy(other.letters, 0, letters, 0, MOST_SLUGS);
            size = other.size;
            pitch = other.pitch;
            gap = other.gap;
        }

        /** The slug that faces a column at a tick, or NONE. */
        int slugFacing(int c, int t) {
            int way = c * gap + t;
            if (size < 1 || pitch < 1 || way % pitch != 0) {
                return NONE;
            }
            return way / pitch % size;
        }

        int letterFacing(int c, int t) {
            int slug = slugFacing(c, t);
            return slug < 0 ? NONE : letters[slug];
        }

        /** The first tick, t at least, at which a letter faces a column; NONE if the chain has it not. */
        int nextTick(int c, int letter, int t) {
            int turn = size * pitch;
            if (turn < 1) {
                return NONE;
            }
            int way = (c * gap + t) % turn;
            int least = turn;
            for (int i = 0; i < size; i++) {
                int wait = i * pitch - way;
                if (wait < 0) {
                    wait += turn;
                }
                if (letters[i] == letter && wait < least) {
                    least = wait;
                }
            }
            return least == turn ? NONE : t + least;
        }

        /** A bit for each letter that is on the chain. */
        int letterSet() {
            int set = 0;
            for (int i = 0; i < size; i++) {
                set |= 1 << letters[i];
            }
            return set;
        }

        void sortLetters() {
            for (int i = 1; i < size; i++) {
                for (int j = i; j > 0 && letters[j - 1] > letters[j]; j--) {
                    swapLetters(j - 1, j);
                }
            }
        }

        /** Puts the letters into the next greater order; answers false if there is none. */
        boolean toNextOrder() {
            int i = size - 2;
            while (i >= 0 && letters[i] >= letters[i + 1]) {
                i--;
            }
            if (i < 0) {
                return false;
            }
            int j = size - 1;
            while (j > i + 1 && letters[j] <= letters[i]) {
                j--;
            }
            swapLetters(i, j);
            for (int low = i + 1, high = size - 1; low < high; low++, high--) {
                swapLetters(low, high);
            }
            return true;
        }

        private void swapLetters(int i, int j) {
            int kept = letters[i];
            letters[i] = letters[j];
            letters[j] = kept;
        }
    }

    /** The orders that a text told. */
    private static final class Program {
        final int[] kinds = new int[MOST_ORDERS];
        final int[] numbers = new int[MOST_ORDERS];
        final int[] starts = new int[MOST_ORDERS];
        final int[] lengths = new int[MOST_ORDERS];
        final int[] letters = new int[MOST_BYTES];
        int size, lettersUsed;

        void clear() {
            size = 0;
            lettersUsed = 0;
        }

        /** The letters of a put are those that came by addLetter since the order before it. */
        void addOrder(int kind, int number, int length) {
            if (size < MOST_ORDERS) {
                kinds[size] = kind;
                numbers[size] = number;
                starts[size] = lettersUsed - length;
                lengths[size] = length;
                size++;
            }
        }

        void addLetter(int letter) {
            if (lettersUsed < MOST_BYTES) {
                letters[lettersUsed] = letter;
                lettersUsed++;
            }
        }

        int letterOf(int k, int i) {
            return letters[starts[k] + i];
        }
    }

    /** What a text tells. */
    private static final class Rules {
        final Chain chain = new Chain();
        final Program program = new Program();
        final int[] values = new int[ROWS + 1];
        final int[] channels = new int[MOST_ROWS];

        Rules() {
            beAtFirst();
            settle();
        }

        void beAtFirst() {
            System.arraycopy(AT_FIRST, 0, values, 0, AT_FIRST.length);
            chain.size = AT_FIRST[CHAIN];
            for (int i = 0; i < chain.size; i++) {
                chain.letters[i] = i + 1;
            }
            Arrays.fill(channels, 0);
            program.clear();
        }

        /** What can only be known when all is told. */
        void settle() {
            chain.pitch = values[PITCH];
            chain.gap = values[GAP];
            if (holeCount() == 0) {
                channels[0] = 1;
            }
        }

        int holeCount() {
            int sum = 0;
            for (int row = 0; row < MOST_ROWS; row++) {
                sum += Integer.bitCount(channels[row]);
            }
            return sum;
        }

        /** How far the next row with a hole is from a row, 1 at least; NONE if there is none. */
        int rowsToHole(int row, int channel) {
            int rows = values[ROWS];
            int at = row;
            for (int k = 1; k <= rows; k++) {
                at = at + 1 < rows ? at + 1 : 0;
                if ((channels[at] >> channel & 1) != 0) {
                    return k;
                }
            }
            return NONE;
        }
    }

    /** The tape, and the reading of it. */
    private static final class Reader {
        final byte[] bytes = new byte[MOST_BYTES];
        int length;
        int fault, faultPlace, lines;
        /** The latest token: its kind, its first byte, the place behind it, and its worth if it is a NUMBER. */
        private int kind, from, place, number;
        private int wordsTold;
        /** Holes and puts, told before the rows and columns may be known: looked at behind all. */
        private final int[] laterFault = new int[MOST_REACHES];
        private final int[] laterReach = new int[MOST_REACHES];
        private final int[] laterPlace = new int[MOST_REACHES];
        private int laterSize;

        boolean append(long v) {
            if (length + 8 > MOST_BYTES) {
                return false;
            }
            for (int shift = 56; shift >= 0; shift -= 8) {
                bytes[length] = (byte) (v >> shift);
                length++;
            }
            return true;
        }

        /** Reads the tape; answers false if it has a fault. */
        boolean readInto(Rules rules) {
            rules.beAtFirst();
            fault = 0;
            place = 0;
            lines = 0;
            wordsTold = 0;
            laterSize = 0;
            for (int n = 0; n <= MOST_BYTES; n++) {
                if (!nextToken()) {
                    return false;
                }
                if (kind == END) {
                    rules.settle();
                    return lookBehindAll(rules);
                }
                if (!readLine(rules)) {
                    return false;
                }
                lines++;
            }
            return false;
        }

        private boolean readLine(Rules rules) {
            int word = wordOfToken();
            if (word == NONE) {
                return fail(2, from);
            }
            if (word <= ROWS && (wordsTold >> word & 1) != 0) {
                return fail(4, from);
            }
            if (word >= PUT && rules.program.size >= MOST_ORDERS) {
                return fail(5, from);
            }
            wordsTold |= 1 << word;
            boolean good = true;
            switch (word) {
                case CHAIN: good = readChain(rules.chain); break;
                case HOLE: good = readHole(rules.channels); break;
                case PUT: good = readPut(rules.program); break;
                case GO: rules.program.addOrder(GO, 0, 0); break;
                default: good = readNumbered(word, rules); break;
            }
            return good && take(';');
        }

        private boolean readNumbered(int word, Rules rules) {
            if (!takeNumber(LOW[word], HIGH[word])) {
                return false;
            }
            if (word <= ROWS) {
                rules.values[word] = number;
            } else {
                rules.program.addOrder(word, number, 0);
            }
            return true;
        }

        private boolean readChain(Chain chain) {
            if (!take(',') || !take(NAME)) {
                return false;
            }
            int size = place - from;
            if (size < FEWEST_SLUGS || size > MOST_SLUGS) {
                return fail(3, from);
            }
            for (int i = 0; i < size; i++) {
                chain.letters[i] = letterAt(from + i);
            }
            chain.size = size;
            return true;
        }

        private boolean readHole(int[] channels) {
            if (!takeNumber(LOW[HOLE], HIGH[HOLE])) {
                return false;
            }
            int row = number;
            lookLater(6, row + 1);
            if (!takeNumber(0, CHANNELS - 1)) {
                return false;
            }
            channels[row] |= 1 << number;
            return true;
        }

        private boolean readPut(Program program) {
            if (!take(',') || !take(NAME)) {
                return false;
            }
            int size = place - from;
            for (int i = 0; i < size; i++) {
                program.addLetter(letterAt(from + i));
            }
            if (!takeNumber(LOW[PUT], HIGH[PUT])) {
                return false;
            }
            lookLater(7, number + size);
            program.addOrder(PUT, number, size);
            return true;
        }

        /** Keeps how many rows or columns this line needs, with the place of the number just taken. */
        private void lookLater(int laterKind, int reach) {
            if (laterSize < MOST_REACHES) {
                laterFault[laterSize] = laterKind;
                laterReach[laterSize] = reach;
                laterPlace[laterSize] = from;
                laterSize++;
            }
        }

        private boolean lookBehindAll(Rules rules) {
            for (int i = 0; i < laterSize; i++) {
                int bound = rules.values[laterFault[i] == 6 ? ROWS : COLUMNS];
                if (laterReach[i] > bound) {
                    return fail(laterFault[i], laterPlace[i]);
                }
            }
            return true;
        }

        private boolean take(int due) {
            return nextToken() && (kind == due || fail(2, from));
        }

        private boolean takeNumber(int low, int high) {
            if (!nextToken()) {
                return false;
            }
            if (kind != NUMBER) {
                return fail(2, from);
            }
            number = 0;
            for (int i = from; i < place; i++) {
                number = number * 10 + (bytes[i] - '0');
            }
            return number >= low && number <= high || fail(3, from);
        }

        /** Reads one token, as long as may be; answers false if there is none. */
        private boolean nextToken() {
            while (place < length && bytes[place] == ' ') {
                place++;
            }
            from = place;
            if (place >= length) {
                kind = END;
                return true;
            }
            kind = kindOf(bytes[place]);
            place++;
            while ((kind == NAME || kind == NUMBER) && place < length && kindOf(bytes[place]) == kind) {
                place++;
            }
            if (kind == NO_TOKEN || kind == NUMBER && place - from > 2) {
                return fail(1, from);
            }
            return true;
        }

        private static int kindOf(int sign) {
            if (sign >= 'a' && sign <= 'z') {
                return NAME;
            }
            if (sign >= '0' && sign <= '9') {
                return NUMBER;
            }
            return sign == ';' || sign == ',' ? sign : NO_TOKEN;
        }

        /** Which word the token is; NONE if it begins no line. */
        private int wordOfToken() {
            int size = place - from;
            if (kind != NAME || size > WORD_LENGTH) {
                return NONE;
            }
            for (int word = 0; word < WORD_COUNT; word++) {
                if (isWord(word, size)) {
                    return word;
                }
            }
            return NONE;
        }

        private boolean isWord(int word, int size) {
            for (int i = 0; i < WORD_LENGTH; i++) {
                int sign = i < size ? bytes[from + i] : ' ';
                if (WORDS.charAt(word * WORD_LENGTH + i) != sign) {
                    return false;
                }
            }
            return true;
        }

        private int letterAt(int i) {
            return bytes[i] - 'a' + 1;
        }

        private boolean fail(int number, int at) {
            fault = number;
            faultPlace = at;
            return false;
        }
    }

    /** How a line was struck, and what is told that it shows. */
    private static final class Strike {
        /** For each column the tick of its strike (NONE: not struck), and what is told to be seen there. */
        final int[] tickOf = new int[MOST_COLUMNS];
        final int[] told = new int[MOST_COLUMNS];
        boolean wasMade;
        int total, most;
        /** A bit for each column that waited on for power. */
        long waited;
        /** Columns that are not struck yet, by numbers, and the tick at which the letter of each comes next. */
        private final int[] open = new int[MOST_COLUMNS];
        private final int[] due = new int[MOST_COLUMNS];
        private int left;

        /** Strikes a line whose letters are all on the chain: answers how many ticks. */
        int make(Chain chain, int[] letters, int columns, int power, int start) {
            gather(chain, letters, columns, start);
            int behind = start;
            // each tick that is looked at has a strike, so there are no more of them than columns
            for (int n = 0; n < MOST_COLUMNS && left > 0; n++) {
                int at = earliestDue();
                strikeAt(at, power);
                behind = at + 1;
                for (int i = 0; i < left; i++) {
                    int c = open[i];
                    if (due[i] == at) {
                        waited |= 1L << c;
                        due[i] = chain.nextTick(c, letters[c], behind);
                    }
                }
            }
            return behind - start;
        }

        private void gather(Chain chain, int[] letters, int columns, int start) {
            wasMade = true;
            most = 0;
            waited = 0;
            left = 0;
            for (int c = 0; c < columns; c++) {
                tickOf[c] = NONE;
                told[c] = NONE;
                if (letters[c] != BLANK) {
                    open[left] = c;
                    due[left] = chain.nextTick(c, letters[c], start);
                    left++;
                }
            }
            total = left;
        }

        private int earliestDue() {
            int least = due[0];
            for (int i = 1; i < left; i++) {
                least = Math.min(least, due[i]);
            }
            return least;
        }

        private void strikeAt(int at, int power) {
            int hits = 0;
            int kept = 0;
            for (int i = 0; i < left; i++) {
                if (due[i] == at && hits < power) {
                    tickOf[open[i]] = at;
                    hits++;
                } else {
                    open[kept] = open[i];
                    due[kept] = due[i];
                    kept++;
                }
            }
            left = kept;
            most = Math.max(most, hits);
        }

        /** What a struck column shows, if the chain lay k slugs further on. */
        int shownAfterSlip(Chain chain, int k, int c) {
            int slug = chain.slugFacing(c, tickOf[c]);
            if (slug < 0) {
                return NONE;
            }
            slug += k;
            if (slug >= chain.size) {
                slug -= chain.size;
            }
            return slug < chain.size ? chain.letters[slug] : NONE;
        }

        boolean fitsSlip(Chain chain, int k, int columns) {
            for (int c = 0; c < columns; c++) {
                if (told[c] != NONE && told[c] != shownAfterSlip(chain, k, c)) {
                    return false;
                }
            }
            return true;
        }
    }

    /** What is on the paper since the latest page began. */
    private static final class Page {
        final int[] letters = new int[MOST_ROWS * MOST_COLUMNS];
        final int[] times = new int[MOST_ROWS * MOST_COLUMNS];

        void clear() {
            Arrays.fill(letters, BLANK);
            Arrays.fill(times, 0);
        }

        void mark(int row, int c, int letter) {
            int place = row * MOST_COLUMNS + c;
            letters[place] = letter;
            times[place]++;
        }

        /** How many places were struck so often at least. */
        int placesStruck(int often) {
            int sum = 0;
            for (int place = 0; place < times.length; place++) {
                if (times[place] >= often) {
                    sum++;
                }
            }
            return sum;
        }
    }

    /** The line, the paper and the tick; one with no page does for trials, of which only the ticks are asked. */
    private static final class Printer {
        final int[] letters = new int[MOST_COLUMNS];
        final Strike strike = new Strike();
        int tick, row, pages, linesStruck;
        private final Page page;
        private Rules rules;
        private Chain chain;

        Printer(Page page, Rules rules, Chain chain) {
            this.page = page;
            begin(rules, chain);
        }

        /** All is as a text makes it, with a chain that need not be that of the rules. */
        void begin(Rules newRules, Chain newChain) {
            rules = newRules;
            chain = newChain;
            tick = 0;
            row = 0;
            pages = 1;
            linesStruck = 0;
            strike.wasMade = false;
            Arrays.fill(letters, BLANK);
            if (page != null) {
                page.clear();
            }
        }

        int lettersInLine() {
            int sum = 0;
            for (int c = 0; c < MOST_COLUMNS; c++) {
                if (letters[c] != BLANK) {
                    sum++;
                }
            }
            return sum;
        }

        boolean canStrike() {
            int there = chain.letterSet() | 1 << BLANK;
            for (int c = 0; c < MOST_COLUMNS; c++) {
                if ((there >> letters[c] & 1) == 0) {
                    return false;
                }
            }
            return true;
        }

        int strikeLine() {
            if (!canStrike()) {
                return STATE;
            }
            int taken = strike.make(chain, letters, rules.values[COLUMNS], rules.values[POWER], tick);
            markPage();
            Arrays.fill(letters, BLANK);
            tick += taken;
            linesStruck++;
            return taken;
        }

        int moveBy(int k) {
            if (k < 1) {
                return 0;
            }
            int rows = rules.values[ROWS];
            int taken = rules.values[START] + k * rules.values[STEP];
            tick += taken;
            row += k;
            if (rows < 1 || row < rows) {
                return taken;
            }
            pages += row / rows;
            row %= rows;
            if (page != null) {
                page.clear();
            }
            return taken;
        }

        int moveToHole(int channel) {
            int k = rules.rowsToHole(row, channel);
            return k == NONE ? NONE : moveBy(k);
        }

        /** Answers how many orders were done. */
        int runProgram() {
            Program program = rules.program;
            for (int k = 0; k < program.size; k++) {
                boolean done = true;
                switch (program.kinds[k]) {
                    case PUT: fillLine(program, k); break;
                    case GO: done = strikeLine() != STATE; break;
                    case SPACE: moveBy(program.numbers[k]); break;
                    default: done = moveToHole(program.numbers[k]) != NONE; break;
                }
                if (!done) {
                    return k;
                }
            }
            return program.size;
        }

        private void fillLine(Program program, int k) {
            int first = program.numbers[k];
            int length = Math.min(program.lengths[k], MOST_COLUMNS - first);
            for (int i = 0; i < length; i++) {
                letters[first + i] = program.letterOf(k, i);
            }
        }

        private void markPage() {
            for (int c = 0; page != null && c < MOST_COLUMNS; c++) {
                if (letters[c] != BLANK) {
                    page.mark(row, c, letters[c]);
                }
            }
        }
    }

    /** Rows of cells, each of a lane that tells how wide they are. */
    private static final class Sheets {
        private static final int NOTHING = -1;
        final int[] lanes = new int[SHEETS];
        /** How many cells each has; NOTHING if there is no row. */
        final int[] sizes = new int[SHEETS];
        private final int[] cells = new int[SHEETS * MOST_CELLS];

        Sheets() {
            Arrays.fill(sizes, NOTHING);
        }

        boolean isNothing(int k) {
            return sizes[k] == NOTHING;
        }

        boolean hasCell(int k, int i) {
            return i >= 0 && i < sizes[k];
        }

        void renew(int k, int lane, int n) {
            lanes[k] = lane;
            sizes[k] = n;
            for (int i = 0; i < MOST_CELLS; i++) {
                cells[k * MOST_CELLS + i] = 0;
            }
        }

        int valueOf(int k, int i) {
            return cells[k * MOST_CELLS + i];
        }

        /** A cell of bytes or shorts keeps what these would keep of the number. */
        void write(int k, int i, int v) {
            int kept = v;
            if (lanes[k] == 0) {
                kept = (byte) v;
            } else if (lanes[k] == 1) {
                kept = (short) v;
            }
            cells[k * MOST_CELLS + i] = kept;
        }
    }

    /** Runs of the program with other chains; what they found is kept until other rules come. */
    private static final class Trials {
        final Printer printer;
        final int[] orderLetters = new int[MOST_SLUGS_ORDERED];
        int orderTicks, doubleTicks, doubleLetter, singleTicks;
        private final Chain chain = new Chain();
        private boolean orderKnown, doubleKnown;

        Trials(Rules rules) {
            printer = new Printer(null, rules, chain);
        }

        void forget() {
            orderKnown = false;
            doubleKnown = false;
        }

        /** Orders go from the least row of letters upward, so that of several the first is kept. */
        void findOrder(Rules rules) {
            if (orderKnown) {
                return;
            }
            orderKnown = true;
            chain.copyFrom(rules.chain);
            chain.sortLetters();
            keepOrder(ticksOfRun(rules));
            // what can not be done in one order can not in any
            for (int n = 1; n < ORDERS_OF_SLUGS && orderTicks != NONE && chain.toNextOrder(); n++) {
                int taken = ticksOfRun(rules);
                if (taken < orderTicks) {
                    keepOrder(taken);
                }
            }
        }

        private void keepOrder(int taken) {
            orderTicks = taken;
            System.arraycopy(chain.letters, 0, orderLetters, 0, MOST_SLUGS_ORDERED);
        }

        void findDouble(Rules rules) {
            if (doubleKnown) {
                return;
            }
            doubleKnown = true;
            doubleTicks = NONE;
            chain.copyFrom(rules.chain);
            singleTicks = ticksOfRun(rules);
            if (chain.size >= MOST_SLUGS) {
                return;
            }
            chain.size++;
            for (int letter = 1; letter <= LAST_LETTER; letter++) {
                chain.letters[chain.size - 1] = letter;
                int taken = ticksOfRun(rules);
                if (taken != NONE && (doubleTicks == NONE || taken < doubleTicks)) {
                    doubleTicks = taken;
                    doubleLetter = letter;
                }
            }
        }

        /** Ticks of a run from tick 0 on; NONE if not all of it can be done. */
        private int ticksOfRun(Rules rules) {
            printer.begin(rules, chain);
            return printer.runProgram() == rules.program.size ? printer.tick : NONE;
        }
    }
}
