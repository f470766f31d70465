import java.util.Arrays;
import java.util.NoSuchElementException;

/**
 * Two streams joined as they come. The numbered promises stand in the project's document;
 * the comments here say only why something is done as it is.
 */
public final class OuterRows {
    /** There is none; refused. */
    public static final int NONE = -1;

    private static final int NO_NUMBER = Integer.MIN_VALUE;
    private static final int ABSENT = -2;

    private static final int UNKNOWN = 1;
    private static final int WRONG_NUMBER = 2;
    private static final int FAULTY = 4;

    private static final int LEFT = 0;
    private static final int RIGHT = 1;
    private static final int SIDES = 2;
    private static final int NAMES = 8;
    private static final int FULL = 3;
    private static final int KEEP_MOST = 999;
    private static final int LATE_MOST = 999;
    private static final int TIME_MOST = 9999;
    private static final int MANY_MOST = 9;
    private static final int SEED_MOST = 65536;

    // A row's place is (KEY, left, right) read as digits, with none behind all VALUES:
    // so places in rising order are rows in the document's order.
    private static final int NO_VALUE = NAMES;
    private static final int ENDS = NAMES + 1;
    private static final int ROWS_OF_KEY = ENDS * ENDS;
    private static final int ROWS = NAMES * ROWS_OF_KEY;

    private final Reader reader = new Reader();
    private final Board trial = new Board();
    private final int[] order = new int[Store.MOST];
    private Books books = null;
    private Books shelf = null;
    private boolean isKept = false;
    private int trouble = 0;
    private int fault = 0;
    private int place = NONE;

    public OuterRows() {
    }

    // ---- the desk

    public int feed(int a, int b, int c, int d, int e) {
        Tape tape = reader.tape;
        if (!tape.hasRoomFor(20)) {
            return NONE;
        }
        tape.put(a);
        tape.put(b);
        tape.put(c);
        tape.put(d);
        tape.put(e);
        return tape.length;
    }

    public int desk(int n) {
        if (n < 0 || n > reader.tape.length) {
            return refuse(WRONG_NUMBER, NONE);
        }
        reader.expectDesk();
        if (!tookText(reader.readLines(n))) {
            return refuse(FAULTY, NONE);
        }
        if (books == null) {
            books = new Books();
        }
        books.clear(reader.how, reader.keep, reader.late);
        isKept = false;
        return accept(doLines(books));
    }

    public int more(int n) {
        if (books == null) {
            return refuse(UNKNOWN, NONE);
        }
        if (n < 0 || n > reader.tape.length) {
            return refuse(WRONG_NUMBER, NONE);
        }
        reader.expectMore(books.keys, books.values);
        if (!tookText(reader.readLines(n))) {
            return refuse(FAULTY, NONE);
        }
        return accept(doLines(books));
    }

    public int fault() {
        return fault;
    }

    public int where() {
        return trouble == FAULTY ? place : NONE;
    }

    public int about(int what) {
        if (books == null || what < 0 || what > 9) {
            return refuse(UNKNOWN, NONE);
        }
        return accept(books.told(what));
    }

    public int letter(int kind, int number, int i) {
        if (books == null || kind < 0 || kind > 1 || i < 0) {
            return refuse(UNKNOWN, NONE);
        }
        Words words = kind == 0 ? books.keys : books.values;
        if (!words.knows(number)) {
            return refuse(UNKNOWN, NONE);
        }
        return accept(words.letterAt(number, i));
    }

    // ---- what is there

    public int net(int side, int key, int value) {
        if (!isSide(side) || !isKey(key) || !isValue(value)) {
            return refuse(UNKNOWN, NO_NUMBER);
        }
        return accept(books.board.netOf(side, key, value));
    }

    public int there(int side, int key) {
        if (!isSide(side) || !isKey(key)) {
            return refuse(UNKNOWN, NONE);
        }
        return accept(books.board.thereOfAll(side, key));
    }

    public int key(int k, int what) {
        if (!isKey(k) || what < 0 || what > 4) {
            return refuse(UNKNOWN, NONE);
        }
        return accept(books.toldOfKey(k, what));
    }

    public int debts(int side) {
        if (books == null || !isSide(side)) {
            return refuse(UNKNOWN, NONE);
        }
        return accept(books.board.countDebts(side));
    }

    // ---- rows

    public int sent(int key, int left, int right) {
        if (!isRow(key, left, right)) {
            return refuse(UNKNOWN, NO_NUMBER);
        }
        return accept(books.board.sums[placeOf(key, left, right)]);
    }

    public int join(int key, int left, int right) {
        if (!isRow(key, left, right)) {
            return refuse(UNKNOWN, NONE);
        }
        return accept(books.board.joined(key, left, right));
    }

    public int closed(int key, int left, int right) {
        if (!isRow(key, left, right)) {
            return refuse(UNKNOWN, NO_NUMBER);
        }
        Board board = books.board;
        return accept(board.sums[placeOf(key, left, right)] - board.joined(key, left, right));
    }

    public int rows() {
        if (books == null) {
            return refuse(UNKNOWN, NONE);
        }
        return accept(countFilled(books.board.sums, 0));
    }

    public int row(int i, int what) {
        if (books == null || what < 0 || what > 3) {
            return refuse(UNKNOWN, NO_NUMBER);
        }
        int r = filledPlace(books.board.sums, 0, i);
        if (r == NONE) {
            return refuse(UNKNOWN, NO_NUMBER);
        }
        return accept(partOfRow(r, what, books.board.sums[r]));
    }

    public int spell(int i, int j) {
        if (books == null || j < 0) {
            return refuse(UNKNOWN, NONE);
        }
        int r = filledPlace(books.board.sums, 0, i);
        if (r == NONE) {
            return refuse(UNKNOWN, NONE);
        }
        StringBuilder text = books.textOfRow(r);
        return accept(j < text.length() ? text.charAt(j) : NONE);
    }

    public int traffic(int what) {
        if (books == null || what < 0 || what > 3) {
            return refuse(UNKNOWN, NONE);
        }
        return accept(books.board.ledger.told(what));
    }

    public int log(int i, int what) {
        if (books == null || what < 0 || what > 4 || !books.board.ledger.remembers(i)) {
            return refuse(UNKNOWN, NO_NUMBER);
        }
        return accept(books.board.ledger.toldOfChange(i, what));
    }

    public int flips(int side, int key) {
        if (!isSide(side) || !isKey(key)) {
            return refuse(UNKNOWN, NONE);
        }
        return accept(books.board.turns[side * NAMES + key]);
    }

    public int busiest() {
        if (books == null) {
            return refuse(UNKNOWN, NONE);
        }
        return accept(books.board.ledger.keyOfMost());
    }

    public int dearest() {
        if (books == null) {
            return refuse(UNKNOWN, NONE);
        }
        return accept(books.board.ledger.actOfMost);
    }

    // ---- subscribers

    public int begin(int who) {
        if (books == null || who < 0 || who >= Subscribers.MOST) {
            return refuse(UNKNOWN, NONE);
        }
        books.subscribers.start(who, books.board);
        return accept(countFilled(books.board.sums, 0));
    }

    public int pull(int who) {
        if (!isSubscribed(who)) {
            return refuse(UNKNOWN, NONE);
        }
        books.subscribers.catchUp(who, books.board);
        return accept(countFilled(books.subscribers.differences, who * ROWS));
    }

    public int pulled(int who, int i, int what) {
        if (!isSubscribed(who) || what < 0 || what > 3) {
            return refuse(UNKNOWN, NO_NUMBER);
        }
        int[] differences = books.subscribers.differences;
        int r = filledPlace(differences, who * ROWS, i);
        if (r == NONE) {
            return refuse(UNKNOWN, NO_NUMBER);
        }
        return accept(partOfRow(r, what, differences[who * ROWS + r]));
    }

    public int held(int who, int key, int left, int right) {
        if (!isSubscribed(who) || !isRow(key, left, right)) {
            return refuse(UNKNOWN, NO_NUMBER);
        }
        return accept(books.subscribers.holds[who * ROWS + placeOf(key, left, right)]);
    }

    public int lag(int who, int what) {
        if (!isSubscribed(who) || what < 0 || what > 3) {
            return refuse(UNKNOWN, NONE);
        }
        return accept(books.subscribers.told(who, what, books.board));
    }

    // ---- what would be

    public int would(int side, int key, int value, int many, int time) {
        int refusal = refusalOfEvent(side, key, value, many, time);
        if (refusal != 0) {
            return refuse(refusal, NONE);
        }
        if (books.isTooLate(time)) {
            return accept(ABSENT);
        }
        trial.clear(books.board.how);
        if (!books.lapsesAt(key, Math.max(books.clock, time))) {
            trial.takeKeyFrom(books.board, key);
        }
        trial.change(side, key, value, many);
        return accept(trial.ledger.total);
    }

    public int nextLapse() {
        if (books == null) {
            return refuse(UNKNOWN, NONE);
        }
        return accept(books.keyOfNextLapse());
    }

    public int replay(int seed, int what) {
        if (books == null || what < 0 || what > 2) {
            return refuse(UNKNOWN, NO_NUMBER);
        }
        if (seed < 0 || seed > SEED_MOST) {
            return refuse(WRONG_NUMBER, NO_NUMBER);
        }
        orderAsStored();
        mix(books.store.count, seed);
        tryStore(books.store, books.board.how);
        if (what == 0) {
            return accept(trial.ledger.total);
        }
        return accept(what == 1 ? countFilled(trial.sums, 0) : trial.sumOfAll());
    }

    public int cost(int how) {
        if (books == null) {
            return refuse(UNKNOWN, NONE);
        }
        if (!isHow(how)) {
            return refuse(WRONG_NUMBER, NONE);
        }
        orderAsStored();
        tryStore(books.store, how);
        return accept(trial.ledger.total);
    }

    // ---- acts

    public int event(int side, int key, int value, int many, int time) {
        int refusal = refusalOfEvent(side, key, value, many, time);
        if (refusal != 0) {
            return refuse(refusal, NONE);
        }
        return accept(books.happen(side, key, value, many, time));
    }

    public int tick(int time) {
        if (books == null) {
            return refuse(UNKNOWN, NONE);
        }
        if (!isTime(time)) {
            return refuse(WRONG_NUMBER, NONE);
        }
        return accept(books.advance(time));
    }

    public int how(int how) {
        if (books == null) {
            return refuse(UNKNOWN, NONE);
        }
        if (!isHow(how)) {
            return refuse(WRONG_NUMBER, NONE);
        }
        return accept(books.exchange(how));
    }

    public boolean bounds(int keep, int late) {
        if (books == null) {
            return refuse(UNKNOWN, 0) != 0;
        }
        if (keep < 1 || keep > KEEP_MOST || late < 0 || late > LATE_MOST) {
            return refuse(WRONG_NUMBER, 0) != 0;
        }
        books.keep = keep;
        books.late = late;
        return accept(1) != 0;
    }

    public boolean keep() {
        if (books == null) {
            return refuse(UNKNOWN, 0) != 0;
        }
        if (shelf == null) {
            shelf = new Books();
        }
        shelf.copyFrom(books);
        isKept = true;
        return accept(1) != 0;
    }

    public boolean back() {
        if (books == null || shelf == null || !isKept) {
            return refuse(UNKNOWN, 0) != 0;
        }
        books.copyFrom(shelf);
        return accept(1) != 0;
    }

    // ---- what is told

    public int single(int i) throws NoSuchElementException {
        int k = books == null ? NONE : books.lonelyKey(i);
        if (k == NONE) {
            throw new NoSuchElementException("no such KEY");
        }
        return k;
    }

    public int size(int what) {
        switch (what) {
            case 0:
                return reader.tape.length;
            case 1:
                return books == null ? 0 : books.board.ledger.remembered();
            case 2:
                return books == null ? 0 : books.store.count;
            case 3:
                return isKept ? 1 : 0;
            case 4:
                return books == null ? 0 : books.subscribers.countBegun();
            default:
                return NONE;
        }
    }

    public int trouble() {
        return trouble;
    }

    // ---- refusals

    private int refuse(int number, int answer) {
        trouble = number;
        return answer;
    }

    private int accept(int answer) {
        trouble = 0;
        return answer;
    }

    private static boolean isSide(int side) {
        return side == LEFT || side == RIGHT;
    }

    private static boolean isHow(int how) {
        return how >= 0 && how <= FULL;
    }

    private static boolean isTime(int time) {
        return time >= 0 && time <= TIME_MOST;
    }

    private boolean isKey(int key) {
        return books != null && books.keys.knows(key);
    }

    private boolean isValue(int value) {
        return books != null && books.values.knows(value);
    }

    private boolean isRow(int key, int left, int right) {
        if (!isKey(key) || (left == NONE && right == NONE)) {
            return false;
        }
        return (left == NONE || isValue(left)) && (right == NONE || isValue(right));
    }

    private boolean isSubscribed(int who) {
        return books != null && books.subscribers.hasBegun(who);
    }

    private int refusalOfEvent(int side, int key, int value, int many, int time) {
        if (!isSide(side) || !isKey(key) || !isValue(value)) {
            return UNKNOWN;
        }
        if (many < -MANY_MOST || many > MANY_MOST || many == 0 || !isTime(time)) {
            return WRONG_NUMBER;
        }
        return 0;
    }

    // ---- texts

    /** THE TAPE is empty behind every text that was read, a faulty one too. */
    private boolean tookText(boolean isSound) {
        reader.tape.length = 0;
        fault = reader.fault;
        place = reader.place;
        return isSound;
    }

    private int doLines(Books desk) {
        desk.keys.copyFrom(reader.keys);
        desk.values.copyFrom(reader.values);
        int before = desk.board.ledger.total;
        for (int i = 0; i < reader.count && i < Reader.LINES; i++) {
            int at = i * Reader.PARTS;
            int[] line = reader.lines;
            if (line[at + 3] == 0) {
                desk.advance(line[at + 4]);
            } else {
                desk.happen(line[at], line[at + 1], line[at + 2], line[at + 3], line[at + 4]);
            }
        }
        return desk.board.ledger.total - before;
    }

    // ---- the store tried anew

    private void orderAsStored() {
        for (int i = 0; i < Store.MOST; i++) {
            order[i] = i;
        }
    }

    private void mix(int count, int seed) {
        int drawn = seed;
        for (int i = count - 1; i >= 1; i--) {
            drawn = (75 * drawn + 74) % 65537;
            int j = drawn % (i + 1);
            int moved = order[i];
            order[i] = order[j];
            order[j] = moved;
        }
    }

    private void tryStore(Store store, int how) {
        trial.clear(how);
        for (int i = 0; i < store.count && i < Store.MOST; i++) {
            int e = order[i];
            trial.change(store.sides[e], store.keys[e], store.values[e], store.manies[e]);
        }
    }

    // ---- rows by their places

    private static int placeOf(int key, int left, int right) {
        int l = left == NONE ? NO_VALUE : left;
        int r = right == NONE ? NO_VALUE : right;
        return key * ROWS_OF_KEY + l * ENDS + r;
    }

    private static int keyOfPlace(int r) {
        return r / ROWS_OF_KEY;
    }

    private static int leftOfPlace(int r) {
        int left = r / ENDS % ENDS;
        return left == NO_VALUE ? ABSENT : left;
    }

    private static int rightOfPlace(int r) {
        int right = r % ENDS;
        return right == NO_VALUE ? ABSENT : right;
    }

    private static int partOfRow(int r, int what, int amount) {
        switch (what) {
            case 0:
                return keyOfPlace(r);
            case 1:
                return leftOfPlace(r);
            case 2:
                return rightOfPlace(r);
            default:
                return amount;
        }
    }

    private static int countFilled(int[] amounts, int from) {
        int count = 0;
        for (int r = 0; r < ROWS; r++) {
            if (amounts[from + r] != 0) {
                count++;
            }
        }
        return count;
    }

    /** The place of the i-th row whose amount isn't 0, or NONE. */
    private static int filledPlace(int[] amounts, int from, int i) {
        int passed = 0;
        for (int r = 0; r < ROWS; r++) {
            if (amounts[from + r] != 0) {
                if (passed == i) {
                    return r;
                }
                passed++;
            }
        }
        return NONE;
    }

    /** THE TAPE, and the TOKEN of it that is looked at. */
    private static final class Tape {
        static final int MOST = 900;
        static final int DIGITS = 4;
        static final int END = 0;
        static final int WORD = 1;
        static final int WHOLE = 2;
        static final int SEMICOLON = 3;
        static final int NO_TOKEN = 4;

        final byte[] bytes = new byte[MOST];
        int length = 0;
        int end = 0;
        int at = 0;
        int kind = END;
        int start = 0;
        long word = 0;
        int whole = 0;

        boolean hasRoomFor(int count) {
            return length + count <= MOST;
        }

        void put(int number) {
            if (!hasRoomFor(4)) {
                return;
            }
            bytes[length] = (byte) (number >> 24);
            bytes[length + 1] = (byte) (number >> 16);
            bytes[length + 2] = (byte) (number >> 8);
            bytes[length + 3] = (byte) number;
            length += 4;
        }

        void rewind(int n) {
            end = n;
            at = 0;
            next();
        }

        void next() {
            while (at < end && bytes[at] == ' ') {
                at++;
            }
            start = at;
            if (at >= end) {
                kind = END;
            } else if (passRun('a', 'z')) {
                takeWord();
            } else if (passRun('0', '9')) {
                takeWhole();
            } else {
                kind = bytes[at] == ';' ? SEMICOLON : NO_TOKEN;
                at++;
            }
        }

        private boolean passRun(char least, char most) {
            while (at < end && bytes[at] >= least && bytes[at] <= most) {
                at++;
            }
            return at > start;
        }

        private void takeWord() {
            kind = at - start <= Words.LETTERS ? WORD : NO_TOKEN;
            word = 0;
            for (int i = 0; i < Words.LETTERS && start + i < at; i++) {
                word = word | ((long) bytes[start + i] << (8 * i));
            }
        }

        private void takeWhole() {
            kind = at - start <= DIGITS ? WHOLE : NO_TOKEN;
            whole = 0;
            for (int i = 0; i < DIGITS && start + i < at; i++) {
                whole = whole * 10 + (bytes[start + i] - '0');
            }
        }

        boolean says(long pack) {
            return kind == WORD && word == pack;
        }
    }

    /** WORDS by their numbers; each is packed in a long, its first letter lowest. */
    private static final class Words {
        static final int LETTERS = 5;
        static final long DESK = 'd' | 'e' << 8 | 's' << 16 | (long) 'k' << 24;
        static final long PUT = 'p' | 'u' << 8 | 't' << 16;
        static final long BACK = 'b' | 'a' << 8 | 'c' << 16 | (long) 'k' << 24;
        static final long TICK = 't' | 'i' << 8 | 'c' << 16 | (long) 'k' << 24;
        static final long BY = 'b' | 'y' << 8;
        static final long AT = 'a' | 't' << 8;
        static final long KEEP = 'k' | 'e' << 8 | 'e' << 16 | (long) 'p' << 24;
        static final long LATE = 'l' | 'a' << 8 | 't' << 16 | (long) 'e' << 24;
        static final long INNER = 'i' | 'n' << 8 | 'n' << 16 | (long) 'e' << 24 | (long) 'r' << 32;
        static final long LEFT_WORD = 'l' | 'e' << 8 | 'f' << 16 | (long) 't' << 24;
        static final long RIGHT_WORD = 'r' | 'i' << 8 | 'g' << 16 | (long) 'h' << 24 | (long) 't' << 32;
        static final long FULL_WORD = 'f' | 'u' << 8 | 'l' << 16 | (long) 'l' << 24;

        final long[] packs = new long[NAMES];
        int count = 0;

        boolean knows(int number) {
            return number >= 0 && number < count && number < NAMES;
        }

        boolean isFull() {
            return count >= NAMES;
        }

        int numberOf(long pack) {
            for (int i = 0; i < count && i < NAMES; i++) {
                if (packs[i] == pack) {
                    return i;
                }
            }
            return NONE;
        }

        int add(long pack) {
            if (isFull()) {
                return NONE;
            }
            packs[count] = pack;
            count++;
            return count - 1;
        }

        int letterAt(int number, int i) {
            if (!knows(number) || i < 0 || i >= LETTERS) {
                return 0;
            }
            return (int) ((packs[number] >> (8 * i)) & 255);
        }

        void appendTo(StringBuilder text, int number) {
            if (number == ABSENT) {
                text.append('-');
                return;
            }
            for (int i = 0; i < LETTERS; i++) {
                int letter = letterAt(number, i);
                if (letter != 0) {
                    text.append((char) letter);
                }
            }
        }

        void clear() {
            count = 0;
        }

        void copyFrom(Words other) {
            System.arraycopy(other.packs, 0, packs, 0, NAMES);
            count = other.count;
        }
    }

    /**
     * Reads a whole text before any LINE of it is done, so that a faulty one changes nothing:
     * new KEYS and VALUES stand in the reader's own WORDS until then.
     */
    private static final class Reader {
        static final int LINES = 40;
        static final int PARTS = 5;
        static final int FORM = 1;
        static final int BOUNDS = 2;
        static final int AGAIN = 3;
        static final int MANY = 4;
        static final int LACKS = 5;

        final Tape tape = new Tape();
        final Words keys = new Words();
        final Words values = new Words();
        // side, KEY, VALUE, how many (below 0 taken back, 0 a tick), TIME
        final int[] lines = new int[LINES * PARTS];
        int count = 0;
        boolean hasDesk = false;
        int how = 0;
        int keep = 0;
        int late = 0;
        int number = 0;
        int fault = 0;
        int place = NONE;

        void expectDesk() {
            keys.clear();
            values.clear();
            hasDesk = false;
        }

        void expectMore(Words knownKeys, Words knownValues) {
            keys.copyFrom(knownKeys);
            values.copyFrom(knownValues);
            hasDesk = true;
        }

        // No desk at the end needs no look: without one the first LINE, or the end in its
        // place, has been refused already.
        boolean readLines(int n) {
            fault = 0;
            place = NONE;
            count = 0;
            tape.rewind(n);
            boolean goesOn = readLine();
            for (int i = 0; i < Tape.MOST && goesOn && tape.kind == Tape.SEMICOLON; i++) {
                tape.next();
                goesOn = readLine();
            }
            return goesOn && (tape.kind == Tape.END || fail(FORM));
        }

        private boolean fail(int what) {
            fault = what;
            place = tape.start;
            return false;
        }

        private boolean readLine() {
            if (tape.says(Words.DESK)) {
                return hasDesk ? fail(AGAIN) : readDeskLine();
            }
            boolean isPut = tape.says(Words.PUT);
            boolean isTick = tape.says(Words.TICK);
            if (!isPut && !isTick && !tape.says(Words.BACK)) {
                return fail(FORM);
            }
            if (count >= LINES) {
                return fail(MANY);
            }
            if (!hasDesk) {
                return fail(LACKS);
            }
            tape.next();
            return isTick ? readTick() : readEvent(isPut ? 1 : -1);
        }

        private boolean readDeskLine() {
            tape.next();
            if (!readHow() || !readWord(Words.KEEP) || !readWhole(1, KEEP_MOST)) {
                return false;
            }
            keep = number;
            if (!readWord(Words.LATE) || !readWhole(0, LATE_MOST)) {
                return false;
            }
            late = number;
            hasDesk = true;
            return true;
        }

        private boolean readTick() {
            if (!readWhole(0, TIME_MOST)) {
                return false;
            }
            addLine(0, 0, 0, 0, number);
            return true;
        }

        private boolean readEvent(int sign) {
            if (!readSide()) {
                return false;
            }
            int side = number;
            if (!readName(keys)) {
                return false;
            }
            int key = number;
            if (!readName(values)) {
                return false;
            }
            int value = number;
            int many = 1;
            if (tape.says(Words.BY)) {
                tape.next();
                if (!readWhole(1, MANY_MOST)) {
                    return false;
                }
                many = number;
            }
            if (!readWord(Words.AT) || !readWhole(0, TIME_MOST)) {
                return false;
            }
            addLine(side, key, value, sign * many, number);
            return true;
        }

        private void addLine(int side, int key, int value, int many, int time) {
            if (count >= LINES) {
                return;
            }
            int at = count * PARTS;
            lines[at] = side;
            lines[at + 1] = key;
            lines[at + 2] = value;
            lines[at + 3] = many;
            lines[at + 4] = time;
            count++;
        }

        private boolean readWord(long pack) {
            if (!tape.says(pack)) {
                return fail(FORM);
            }
            tape.next();
            return true;
        }

        private boolean readWhole(int least, int most) {
            if (tape.kind != Tape.WHOLE) {
                return fail(FORM);
            }
            if (tape.whole < least || tape.whole > most) {
                return fail(BOUNDS);
            }
            number = tape.whole;
            tape.next();
            return true;
        }

        private boolean readSide() {
            if (tape.says(Words.LEFT_WORD)) {
                number = LEFT;
            } else if (tape.says(Words.RIGHT_WORD)) {
                number = RIGHT;
            } else {
                return fail(FORM);
            }
            tape.next();
            return true;
        }

        private boolean readHow() {
            if (tape.says(Words.INNER)) {
                how = 0;
            } else if (tape.says(Words.LEFT_WORD)) {
                how = 1;
            } else if (tape.says(Words.RIGHT_WORD)) {
                how = 2;
            } else if (tape.says(Words.FULL_WORD)) {
                how = FULL;
            } else {
                return fail(FORM);
            }
            tape.next();
            return true;
        }

        private boolean readName(Words words) {
            if (tape.kind != Tape.WORD || isReserved()) {
                return fail(FORM);
            }
            number = words.numberOf(tape.word);
            if (number == NONE) {
                if (words.isFull()) {
                    return fail(MANY);
                }
                number = words.add(tape.word);
            }
            tape.next();
            return true;
        }

        private boolean isReserved() {
            return tape.says(Words.DESK) || tape.says(Words.PUT) || tape.says(Words.BACK)
                || tape.says(Words.TICK) || tape.says(Words.BY) || tape.says(Words.AT);
        }
    }

    /** All CHANGES counted, the latest of them remembered: THE LOG. */
    private static final class Ledger {
        static final int MOST = 60;

        final int[] places = new int[MOST];
        final int[] amounts = new int[MOST];
        final int[] numbers = new int[MOST];
        final int[] byKey = new int[NAMES];
        int total = 0;
        int came = 0;
        int went = 0;
        int acts = 0;
        int inAct = 0;
        int most = 0;
        int actOfMost = ABSENT;

        void openAct() {
            acts++;
            inAct = 0;
        }

        void note(int key, int r, int amount) {
            int slot = total % MOST;
            places[slot] = r;
            amounts[slot] = amount;
            numbers[slot] = acts;
            total++;
            byKey[key]++;
            if (amount > 0) {
                came += amount;
            } else {
                went -= amount;
            }
            inAct++;
            if (inAct > most) {
                most = inAct;
                actOfMost = acts;
            }
        }

        int remembered() {
            return Math.min(total, MOST);
        }

        boolean remembers(int i) {
            return i >= 0 && i < remembered();
        }

        int toldOfChange(int i, int what) {
            if (!remembers(i)) {
                return NO_NUMBER;
            }
            int slot = (total - 1 - i) % MOST;
            return what == 4 ? numbers[slot] : partOfRow(places[slot], what, amounts[slot]);
        }

        int told(int what) {
            switch (what) {
                case 0:
                    return came;
                case 1:
                    return went;
                case 2:
                    return total;
                default:
                    return most;
            }
        }

        int keyOfMost() {
            int best = 0;
            for (int k = 1; k < NAMES; k++) {
                if (byKey[k] > byKey[best]) {
                    best = k;
                }
            }
            return total == 0 ? ABSENT : best;
        }

        void clear() {
            Arrays.fill(byKey, 0);
            total = 0;
            came = 0;
            went = 0;
            acts = 0;
            inAct = 0;
            most = 0;
            actOfMost = ABSENT;
        }

        void copyFrom(Ledger other) {
            System.arraycopy(other.places, 0, places, 0, MOST);
            System.arraycopy(other.amounts, 0, amounts, 0, MOST);
            System.arraycopy(other.numbers, 0, numbers, 0, MOST);
            System.arraycopy(other.byKey, 0, byKey, 0, NAMES);
            total = other.total;
            came = other.came;
            went = other.went;
            acts = other.acts;
            inAct = other.inAct;
            most = other.most;
            actOfMost = other.actOfMost;
        }
    }

    /** NETS, and what was sent for them; it knows of no TIME, so that trials can use it too. */
    private static final class Board {
        final int[] nets = new int[SIDES * NAMES * NAMES];
        final int[] sums = new int[ROWS];
        final int[] turns = new int[SIDES * NAMES];
        final Ledger ledger = new Ledger();
        int how = 0;

        private static int netPlace(int side, int key, int value) {
            return (side * NAMES + key) * NAMES + value;
        }

        int netOf(int side, int key, int value) {
            return nets[netPlace(side, key, value)];
        }

        private int thereOf(int side, int key, int value) {
            int net = nets[netPlace(side, key, value)];
            return net > 0 ? net : 0;
        }

        int thereOfAll(int side, int key) {
            int all = 0;
            for (int v = 0; v < NAMES; v++) {
                all += thereOf(side, key, v);
            }
            return all;
        }

        boolean has(int side, int key) {
            for (int v = 0; v < NAMES; v++) {
                if (nets[netPlace(side, key, v)] > 0) {
                    return true;
                }
            }
            return false;
        }

        int countDebts(int side) {
            int count = 0;
            for (int i = 0; i < NAMES * NAMES; i++) {
                if (nets[side * NAMES * NAMES + i] < 0) {
                    count++;
                }
            }
            return count;
        }

        // HOW is two bits: 1 has the left SIDE's OUTER rows, 2 the right SIDE's.
        private static boolean hasOuter(int how, int side) {
            return (how & (1 << side)) != 0;
        }

        private int outerOf(int side, int key, int value) {
            return hasOuter(how, side) && !has(1 - side, key) ? thereOf(side, key, value) : 0;
        }

        int joined(int key, int left, int right) {
            if (left == NONE) {
                return outerOf(RIGHT, key, right);
            }
            if (right == NONE) {
                return outerOf(LEFT, key, left);
            }
            return thereOf(LEFT, key, left) * thereOf(RIGHT, key, right);
        }

        void change(int side, int key, int value, int many) {
            boolean had = has(side, key);
            int before = thereOf(side, key, value);
            nets[netPlace(side, key, value)] += many;
            int d = thereOf(side, key, value) - before;
            if (d == 0) {
                return;
            }
            boolean hasNow = has(side, key);
            int other = 1 - side;
            if (!had && hasNow && hasOuter(how, other)) {
                sendOuters(other, key, -1);
            }
            sendRowsWith(side, key, value, d);
            if (had && !hasNow && hasOuter(how, other)) {
                sendOuters(other, key, 1);
            }
            if (had != hasNow) {
                turns[side * NAMES + key]++;
            }
        }

        private void sendRowsWith(int side, int key, int value, int d) {
            int other = 1 - side;
            if (has(other, key)) {
                for (int v = 0; v < NAMES; v++) {
                    send(side, key, value, v, d * thereOf(other, key, v));
                }
            } else if (hasOuter(how, side)) {
                send(side, key, value, NONE, d);
            }
        }

        private void sendOuters(int side, int key, int sign) {
            for (int v = 0; v < NAMES; v++) {
                send(side, key, v, NONE, sign * thereOf(side, key, v));
            }
        }

        /** A row is told from one SIDE's end here; of an amount of 0 nothing is sent. */
        private void send(int side, int key, int own, int others, int amount) {
            if (amount == 0) {
                return;
            }
            int r = side == LEFT ? placeOf(key, own, others) : placeOf(key, others, own);
            sums[r] += amount;
            ledger.note(key, r, amount);
        }

        void exchangeOuters(int key, int newHow) {
            for (int side = 0; side < SIDES; side++) {
                if (hasOuter(how, side) && !hasOuter(newHow, side) && !has(1 - side, key)) {
                    sendOuters(side, key, -1);
                }
            }
            for (int side = 0; side < SIDES; side++) {
                if (!hasOuter(how, side) && hasOuter(newHow, side) && !has(1 - side, key)) {
                    sendOuters(side, key, 1);
                }
            }
        }

        void emptyKey(int key) {
            for (int side = 0; side < SIDES; side++) {
                if (has(side, key)) {
                    turns[side * NAMES + key]++;
                }
                for (int v = 0; v < NAMES; v++) {
                    nets[netPlace(side, key, v)] = 0;
                }
            }
        }

        void takeKeyFrom(Board other, int key) {
            for (int side = 0; side < SIDES; side++) {
                for (int v = 0; v < NAMES; v++) {
                    nets[netPlace(side, key, v)] = other.netOf(side, key, v);
                }
            }
        }

        int sumOfAll() {
            int all = 0;
            for (int r = 0; r < ROWS; r++) {
                all += sums[r];
            }
            return all;
        }

        void clear(int newHow) {
            Arrays.fill(nets, 0);
            Arrays.fill(sums, 0);
            Arrays.fill(turns, 0);
            ledger.clear();
            how = newHow;
        }

        void copyFrom(Board other) {
            System.arraycopy(other.nets, 0, nets, 0, nets.length);
            System.arraycopy(other.sums, 0, sums, 0, ROWS);
            System.arraycopy(other.turns, 0, turns, 0, turns.length);
            ledger.copyFrom(other.ledger);
            how = other.how;
        }
    }

    /** THE STORE; TIMES are not in it, since trials have neither LAPSES nor TOO LATE. */
    private static final class Store {
        static final int MOST = 60;

        final int[] sides = new int[MOST];
        final int[] keys = new int[MOST];
        final int[] values = new int[MOST];
        final int[] manies = new int[MOST];
        int count = 0;

        void add(int side, int key, int value, int many) {
            if (count >= MOST) {
                return;
            }
            sides[count] = side;
            keys[count] = key;
            values[count] = value;
            manies[count] = many;
            count++;
        }

        void copyFrom(Store other) {
            System.arraycopy(other.sides, 0, sides, 0, MOST);
            System.arraycopy(other.keys, 0, keys, 0, MOST);
            System.arraycopy(other.values, 0, values, 0, MOST);
            System.arraycopy(other.manies, 0, manies, 0, MOST);
            count = other.count;
        }
    }

    /** All SUBSCRIBERS: the rows of each stand behind those of the one ahead of it. */
    private static final class Subscribers {
        static final int MOST = 4;

        // CHANGES sent when it began, or pulled latest; NONE for one that hasn't begun
        final int[] seen = new int[MOST];
        final int[] holds = new int[MOST * ROWS];
        final int[] differences = new int[MOST * ROWS];

        void start(int who, Board board) {
            catchUp(who, board);
            for (int r = 0; r < ROWS; r++) {
                differences[who * ROWS + r] = 0;
            }
        }

        boolean hasBegun(int who) {
            return who >= 0 && who < MOST && seen[who] != NONE;
        }

        void catchUp(int who, Board board) {
            int from = who * ROWS;
            for (int r = 0; r < ROWS; r++) {
                differences[from + r] = board.sums[r] - holds[from + r];
                holds[from + r] = board.sums[r];
            }
            seen[who] = board.ledger.total;
        }

        int told(int who, int what, Board board) {
            int behind = board.ledger.total - seen[who];
            switch (what) {
                case 0:
                    return behind;
                case 1:
                    return behind <= board.ledger.remembered() ? 1 : 0;
                case 2:
                    return countOtherwise(who, board);
                default:
                    return countFilled(differences, who * ROWS);
            }
        }

        private int countOtherwise(int who, Board board) {
            int count = 0;
            for (int r = 0; r < ROWS; r++) {
                if (holds[who * ROWS + r] != board.sums[r]) {
                    count++;
                }
            }
            return count;
        }

        int countBegun() {
            int count = 0;
            for (int who = 0; who < MOST; who++) {
                if (hasBegun(who)) {
                    count++;
                }
            }
            return count;
        }

        void clear() {
            Arrays.fill(seen, NONE);
        }

        void copyFrom(Subscribers other) {
            System.arraycopy(other.seen, 0, seen, 0, MOST);
            System.arraycopy(other.holds, 0, holds, 0, MOST * ROWS);
            System.arraycopy(other.differences, 0, differences, 0, MOST * ROWS);
        }
    }

    /** A DESK: all of it, so that keeping it and going back to it are one copy each. */
    private static final class Books {
        final Words keys = new Words();
        final Words values = new Words();
        final Board board = new Board();
        final Store store = new Store();
        final Subscribers subscribers = new Subscribers();
        // ABSENT for a KEY that doesn't live
        final int[] latest = new int[NAMES];
        final int[] lapses = new int[NAMES];
        int keep = 0;
        int late = 0;
        int clock = 0;
        int tooLate = 0;
        int lapsed = 0;

        void clear(int how, int newKeep, int newLate) {
            keys.clear();
            values.clear();
            board.clear(how);
            store.count = 0;
            subscribers.clear();
            Arrays.fill(latest, ABSENT);
            Arrays.fill(lapses, 0);
            keep = newKeep;
            late = newLate;
            clock = 0;
            tooLate = 0;
            lapsed = 0;
        }

        void copyFrom(Books other) {
            keys.copyFrom(other.keys);
            values.copyFrom(other.values);
            board.copyFrom(other.board);
            store.copyFrom(other.store);
            subscribers.copyFrom(other.subscribers);
            System.arraycopy(other.latest, 0, latest, 0, NAMES);
            System.arraycopy(other.lapses, 0, lapses, 0, NAMES);
            keep = other.keep;
            late = other.late;
            clock = other.clock;
            tooLate = other.tooLate;
            lapsed = other.lapsed;
        }

        boolean lives(int key) {
            return latest[key] != ABSENT;
        }

        boolean lapsesAt(int key, int time) {
            return lives(key) && latest[key] + keep < time;
        }

        boolean isTooLate(int time) {
            return time < clock - late;
        }

        int happen(int side, int key, int value, int many, int time) {
            if (isTooLate(time)) {
                tooLate++;
                return ABSENT;
            }
            advance(time);
            board.ledger.openAct();
            board.change(side, key, value, many);
            // ABSENT is below all TIMES, so this is right for a KEY that didn't live, too
            latest[key] = Math.max(latest[key], time);
            store.add(side, key, value, many);
            return board.ledger.inAct;
        }

        int advance(int time) {
            clock = Math.max(clock, time);
            int before = lapsed;
            for (int k = 0; k < NAMES; k++) {
                if (lapsesAt(k, clock)) {
                    board.emptyKey(k);
                    latest[k] = ABSENT;
                    lapses[k]++;
                    lapsed++;
                }
            }
            return lapsed - before;
        }

        int exchange(int newHow) {
            board.ledger.openAct();
            for (int k = 0; k < NAMES; k++) {
                if (lives(k)) {
                    board.exchangeOuters(k, newHow);
                }
            }
            board.how = newHow;
            return board.ledger.inAct;
        }

        int told(int what) {
            switch (what) {
                case 0:
                    return board.how;
                case 1:
                    return keep;
                case 2:
                    return late;
                case 3:
                    return keys.count;
                case 4:
                    return values.count;
                case 5:
                    return clock;
                case 6:
                    return countLiving();
                case 7:
                    return board.ledger.acts;
                case 8:
                    return tooLate;
                default:
                    return lapsed;
            }
        }

        int toldOfKey(int k, int what) {
            switch (what) {
                case 0:
                    return lives(k) ? 1 : 0;
                case 1:
                    return latest[k];
                case 2:
                    return lives(k) ? latest[k] + keep + 1 : ABSENT;
                case 3:
                    return lapses[k];
                default:
                    return board.ledger.byKey[k];
            }
        }

        private int countLiving() {
            int count = 0;
            for (int k = 0; k < NAMES; k++) {
                if (lives(k)) {
                    count++;
                }
            }
            return count;
        }

        int keyOfNextLapse() {
            int next = ABSENT;
            for (int k = 0; k < NAMES; k++) {
                if (lives(k) && (next == ABSENT || latest[k] < latest[next])) {
                    next = k;
                }
            }
            return next;
        }

        int lonelyKey(int i) {
            int passed = 0;
            for (int k = 0; k < NAMES; k++) {
                if (lives(k) && board.has(LEFT, k) != board.has(RIGHT, k)) {
                    if (passed == i) {
                        return k;
                    }
                    passed++;
                }
            }
            return NONE;
        }

        StringBuilder textOfRow(int r) {
            StringBuilder text = new StringBuilder();
            keys.appendTo(text, keyOfPlace(r));
            text.append(':');
            values.appendTo(text, leftOfPlace(r));
            text.append('|');
            values.appendTo(text, rightOfPlace(r));
            text.append('*');
            text.append(board.sums[r]);
            return text;
        }
    }
}
