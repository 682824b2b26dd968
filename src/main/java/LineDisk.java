import java.util.Arrays;

/** A workspace for little programs in numbered lines that lives on a disk with a journal. */
public final class LineDisk {
    public static final int NONE = -1;

    private static final int FINE = 0;
    private static final int ENDED = 0;
    private static final int NOT_UNDERSTOOD = 2;
    private static final int NO_SUCH_FILE = 3;
    private static final int NO_RECORD = 4;
    private static final int STEPS_DONE = 6;
    private static final int DEAD = 7;
    private static final int NOT_FORMATTED = 8;
    private static final int NO_ROOM = 9;

    private static final int BLOCKS = 32;
    private static final int BLOCK_CELLS = 16;
    private static final int HEAD = 0;
    private static final int DIRECTORY = 1;
    private static final int LOG_HEAD = 2;
    private static final int LOG = 3;
    private static final int LOG_BLOCKS = 6;
    private static final int FIRST_FILE_BLOCK = 9;
    private static final int FILES = 8;
    private static final int RECORDS = 16;
    private static final int FORMATTED = 7077;
    private static final int[] FORMATTED_HEAD = {FORMATTED, 0, 0, 0, 0, 0, 0, 0, 0, 0, 0, 0, 0, 0, 0, 0};
    private static final int[] EMPTY_BLOCK = {0, 0, 0, 0, 0, 0, 0, 0, 0, 0, 0, 0, 0, 0, 0, 0};

    private static final int MOST_LINES = 10;
    private static final int LINE_LENGTH = 12;
    private static final int LINE_CELLS = 4;
    private static final int TAG_UNIT = 16;
    private static final int PACKED = 4;
    private static final int VARIABLES = 8;
    private static final int TYPED_LENGTH = 15;
    private static final int OUT_KEPT = 60;
    private static final int MOST_STEPS = 50;
    private static final int MOST_ARMED = 1000;
    private static final int NOT_ARMED = -1;
    private static final int ENTER = 10;

    private final Store store = new Store();
    private final Journal journal = new Journal();
    private final Workspace workspace = new Workspace();
    private final Statement statement = new Statement();
    private final int[] kept = new int[OUT_KEPT];
    private int outCount = 0;

    public LineDisk() {
    }

    public int format() {
        if (store.dead) {
            return DEAD;
        }
        boolean made = store.write(LOG_HEAD, EMPTY_BLOCK, 0)
                && store.write(DIRECTORY, EMPTY_BLOCK, 0)
                && store.write(HEAD, FORMATTED_HEAD, 0);
        return made ? FINE : died();
    }

    public int recover() {
        store.dead = false;
        workspace.empty();
        int answer = NOT_FORMATTED;
        if (store.isFormatted()) {
            answer = journal.replay(store) ? FINE : died();
        }
        store.armed = NOT_ARMED;
        return answer;
    }

    public int feed(int c) {
        if (store.dead) {
            return DEAD;
        }
        if (c != ENTER) {
            workspace.keepTyped(c);
            return FINE;
        }
        int[] typed = workspace.typed;
        int length = workspace.typedCount;
        workspace.typedCount = 0;
        if (length == 0) {
            return FINE;
        }
        return isDigit(typed[0]) ? enterLine(typed, length) : enterCommand(typed, length);
    }

    public int step(int n) {
        if (store.dead) {
            return DEAD;
        }
        int most = Math.max(1, Math.min(MOST_STEPS, n));
        for (int done = 0; done < most; done++) {
            int answer = oneStep();
            if (answer != STEPS_DONE) {
                return answer;
            }
        }
        return STEPS_DONE;
    }

    public boolean arm(int w) throws IllegalArgumentException {
        if (w < 0 || w > MOST_ARMED) {
            throw new IllegalArgumentException("armed with 0 to 1000 writes");
        }
        store.armed = w;
        return true;
    }

    public int out(int i) throws IndexOutOfBoundsException {
        if (i < 0 || i >= outCount || i >= OUT_KEPT) {
            throw new IndexOutOfBoundsException("no such number is kept");
        }
        return kept[i];
    }

    public int outs() {
        return outCount;
    }

    public int disk(int a) throws IndexOutOfBoundsException {
        if (a < 0 || a >= BLOCKS * BLOCK_CELLS) {
            throw new IndexOutOfBoundsException("no such cell");
        }
        return store.cell(a);
    }

    public int files() {
        if (store.dead) {
            return DEAD;
        }
        if (!store.isFormatted()) {
            return NOT_FORMATTED;
        }
        int count = 0;
        for (int n = 0; n < FILES; n++) {
            if (store.fileCells(n) != 0) {
                count++;
            }
        }
        return count;
    }

    public int about(int what) {
        if (what == 11) {
            return store.writes;
        }
        if (store.dead) {
            return DEAD;
        }
        if (what >= 1 && what <= VARIABLES) {
            return workspace.variables[what - 1];
        }
        switch (what) {
            case 0:
                return workspace.lines;
            case 9:
                return workspace.numberOf(workspace.nextLine());
            case 10:
                return workspace.typedCount;
            default:
                return NONE;
        }
    }

    private static boolean isDigit(int c) {
        return c >= '0' && c <= '9';
    }

    private static boolean isFileDigit(int c) {
        return c >= '0' && c < '0' + FILES;
    }

    private static boolean isVariable(int c) {
        return c >= 'A' && c < 'A' + VARIABLES;
    }

    private static int blocksFor(int cells) {
        return (cells + BLOCK_CELLS - 1) / BLOCK_CELLS;
    }

    private int died() {
        workspace.empty();
        return DEAD;
    }

    private void putOut(int number) {
        if (outCount >= 0 && outCount < OUT_KEPT) {
            kept[outCount] = number;
        }
        outCount++;
    }

    private int enterLine(int[] typed, int length) {
        int digits = 1;
        int number = typed[0] - '0';
        if (length > 1 && isDigit(typed[1])) {
            digits = 2;
            number = 10 * number + typed[1] - '0';
        }
        if (number == 0) {
            return NOT_UNDERSTOOD;
        }
        if (length == digits) {
            workspace.remove(number);
            return FINE;
        }
        if (!statement.read(typed, digits, length - digits, workspace.variables)) {
            return NOT_UNDERSTOOD;
        }
        return workspace.put(number, typed, digits, length - digits) ? FINE : NO_ROOM;
    }

    private int enterCommand(int[] typed, int length) {
        if (length == 1) {
            return plainCommand(typed[0]);
        }
        if (length == 2 && isFileDigit(typed[1])) {
            return fileCommand(typed[0], typed[1] - '0');
        }
        return NOT_UNDERSTOOD;
    }

    private int plainCommand(int letter) {
        switch (letter) {
            case 'F':
                return listFiles();
            case 'N':
                workspace.removeLines();
                return FINE;
            case 'C':
                workspace.clearVariables();
                workspace.next = 0;
                outCount = 0;
                return FINE;
            default:
                return NOT_UNDERSTOOD;
        }
    }

    private int fileCommand(int letter, int n) {
        if (letter != 'S' && letter != 'L' && letter != 'D') {
            return NOT_UNDERSTOOD;
        }
        if (!store.isFormatted()) {
            return NOT_FORMATTED;
        }
        switch (letter) {
            case 'S':
                return saveLines(n);
            case 'L':
                return loadLines(n);
            default:
                return deleteFile(n);
        }
    }

    private int listFiles() {
        if (!store.isFormatted()) {
            return NOT_FORMATTED;
        }
        for (int n = 0; n < FILES; n++) {
            if (store.fileCells(n) != 0) {
                putOut(n);
                putOut(store.fileCells(n));
            }
        }
        return FINE;
    }

    private int saveLines(int n) {
        int cells = 1 + LINE_CELLS * workspace.lines;
        int first = workspace.lines == 0 ? NONE : store.room(blocksFor(cells), n);
        if (first == NONE) {
            return NO_ROOM;
        }
        beginFile(n, cells, first);
        int at = BLOCK_CELLS;
        journal.put(at, workspace.lines);
        at++;
        for (int line = 0; line < workspace.lines; line++) {
            journal.put(at, workspace.tag(line));
            for (int part = 0; part < LINE_CELLS - 1; part++) {
                journal.put(at + 1 + part, workspace.packed(line, part));
            }
            at += LINE_CELLS;
        }
        return commit();
    }

    private int loadLines(int n) {
        int cells = store.fileCells(n);
        if (cells == 0 || cells == RECORDS) {
            return NO_SUCH_FILE;
        }
        workspace.removeLines();
        int at = store.fileStart(n);
        int count = store.cell(at);
        at++;
        for (int line = 0; line < count && line < MOST_LINES; line++) {
            workspace.putPacked(store.cell(at), store.cell(at + 1), store.cell(at + 2), store.cell(at + 3));
            at += LINE_CELLS;
        }
        return FINE;
    }

    private int deleteFile(int n) {
        if (store.fileCells(n) == 0) {
            return NO_SUCH_FILE;
        }
        beginFile(n, 0, 0);
        return commit();
    }

    /** Begins a transaction that has the directory's cells first, and the file's cells behind them. */
    private void beginFile(int n, int cells, int first) {
        journal.begin();
        journal.takeAsItIs(store, DIRECTORY);
        journal.put(2 * n, cells);
        journal.put(2 * n + 1, first);
        int blocks = blocksFor(cells);
        for (int k = 0; k < blocks; k++) {
            journal.takeEmpty(first + k);
        }
    }

    private int commit() {
        return journal.commit(store) ? FINE : died();
    }

    private int oneStep() {
        int line = workspace.nextLine();
        boolean isRead = line != NONE && statement.read(workspace.texts, line * LINE_LENGTH,
                workspace.lengths[line], workspace.variables);
        if (!isRead || statement.kind == 'E') {
            workspace.next = 0;
            return ENDED;
        }
        int answer = perform();
        if (answer != FINE) {
            return answer;
        }
        workspace.next = statement.jumps() ? statement.target : workspace.numberOf(line) + 1;
        return STEPS_DONE;
    }

    private int perform() {
        switch (statement.kind) {
            case '=':
                workspace.variables[statement.variable] = statement.left;
                return FINE;
            case 'P':
                putOut(statement.left);
                return FINE;
            case 'W':
                return writeRecord(statement.file, statement.left, statement.right);
            case 'R':
                return readRecord(statement.file, statement.left, statement.variable);
            default:
                return FINE;
        }
    }

    private int writeRecord(int n, int i, int value) {
        int fault = recordFault(n, i);
        if (fault != FINE) {
            return fault;
        }
        if (store.fileCells(n) != 0) {
            journal.begin();
            journal.takeAsItIs(store, store.fileStart(n) / BLOCK_CELLS);
            journal.put(i, value);
            return commit();
        }
        int first = store.room(1, n);
        if (first == NONE) {
            return NO_ROOM;
        }
        beginFile(n, RECORDS, first);
        journal.put(BLOCK_CELLS + i, value);
        return commit();
    }

    private int readRecord(int n, int i, int variable) {
        int fault = recordFault(n, i);
        if (fault != FINE) {
            return fault;
        }
        if (store.fileCells(n) == 0) {
            return NO_SUCH_FILE;
        }
        workspace.variables[variable] = store.cell(store.fileStart(n) + i);
        return FINE;
    }

    /** What W and R refuse alike; a file that is not there is for each of them to judge. */
    private int recordFault(int n, int i) {
        if (!store.isFormatted()) {
            return NOT_FORMATTED;
        }
        if (i < 0 || i >= RECORDS) {
            return NO_RECORD;
        }
        int cells = store.fileCells(n);
        return cells == 0 || cells == RECORDS ? FINE : NO_RECORD;
    }

    /** The blocks, what the directory says of them, and the crash that may come ahead of a write. */
    private static final class Store {
        private final int[] cells = new int[BLOCKS * BLOCK_CELLS];
        private int armed = NOT_ARMED;
        private boolean dead = false;
        private int writes = 0;

        int cell(int a) {
            return a >= 0 && a < cells.length ? cells[a] : 0;
        }

        boolean isFormatted() {
            return cells[HEAD * BLOCK_CELLS] == FORMATTED;
        }

        /** True: the block is written; false: the crash came ahead of it. */
        boolean write(int block, int[] row, int from) {
            if (armed == 0) {
                armed = NOT_ARMED;
                dead = true;
                return false;
            }
            if (armed > 0) {
                armed--;
            }
            if (block >= 0 && block < BLOCKS && from >= 0 && from <= row.length - BLOCK_CELLS) {
                System.arraycopy(row, from, cells, block * BLOCK_CELLS, BLOCK_CELLS);
                writes++;
            }
            return true;
        }

        boolean copyBlock(int from, int to) {
            return write(to, cells, from * BLOCK_CELLS);
        }

        int fileCells(int n) {
            return cell(DIRECTORY * BLOCK_CELLS + 2 * n);
        }

        int fileStart(int n) {
            return cell(DIRECTORY * BLOCK_CELLS + 2 * n + 1) * BLOCK_CELLS;
        }

        /** The least first block for so many blocks of file n, NONE without room. */
        int room(int blocks, int n) {
            for (int place = FIRST_FILE_BLOCK; place + blocks <= BLOCKS; place++) {
                if (isFreeFor(n, place, place + blocks)) {
                    return place;
                }
            }
            return NONE;
        }

        private boolean isFreeFor(int n, int place, int end) {
            for (int other = 0; other < FILES; other++) {
                int first = fileStart(other) / BLOCK_CELLS;
                int behind = first + blocksFor(fileCells(other));
                if (other != n && first < end && place < behind) {
                    return false;
                }
            }
            return true;
        }
    }

    /** A transaction that is being put together, and what recovery does of one that was committed. */
    private static final class Journal {
        private final int[] rows = new int[LOG_BLOCKS * BLOCK_CELLS];
        private final int[] head = new int[BLOCK_CELLS];
        private int count = 0;

        void begin() {
            Arrays.fill(rows, 0);
            Arrays.fill(head, 0);
            count = 0;
        }

        /** Blocks are to be taken in ascending order of their numbers. */
        void takeEmpty(int block) {
            if (count < LOG_BLOCKS) {
                count++;
                head[0] = count;
                head[count] = block;
            }
        }

        void takeAsItIs(Store store, int block) {
            int start = count * BLOCK_CELLS;
            takeEmpty(block);
            for (int k = 0; k < BLOCK_CELLS; k++) {
                put(start + k, store.cell(block * BLOCK_CELLS + k));
            }
        }

        /** Cell 0 is the first of the block that was taken first, cell 16 the first of the second. */
        void put(int cell, int value) {
            if (cell >= 0 && cell < rows.length) {
                rows[cell] = value;
            }
        }

        /** False: a crash came ahead of one of the writes. */
        boolean commit(Store store) {
            boolean made = true;
            for (int k = 0; made && k < count; k++) {
                made = store.write(LOG + k, rows, k * BLOCK_CELLS);
            }
            made = made && store.write(LOG_HEAD, head, 0);
            for (int k = 0; made && k < count; k++) {
                made = store.write(head[1 + k], rows, k * BLOCK_CELLS);
            }
            return made && store.write(LOG_HEAD, EMPTY_BLOCK, 0);
        }

        /** False: a crash came ahead of one of the writes. */
        boolean replay(Store store) {
            int logHead = LOG_HEAD * BLOCK_CELLS;
            int logged = store.cell(logHead);
            if (logged == 0) {
                return true;
            }
            boolean made = true;
            for (int k = 0; made && k < logged && k < LOG_BLOCKS; k++) {
                made = store.copyBlock(LOG + k, store.cell(logHead + 1 + k));
            }
            return made && store.write(LOG_HEAD, EMPTY_BLOCK, 0);
        }
    }

    /** The lines in the order of their numbers, the variables, NEXT, and what is typed. */
    private static final class Workspace {
        private final int[] numbers = new int[MOST_LINES];
        private final int[] lengths = new int[MOST_LINES];
        private final int[] texts = new int[MOST_LINES * LINE_LENGTH];
        private final int[] unpacked = new int[LINE_LENGTH];
        private final int[] variables = new int[VARIABLES];
        private final int[] typed = new int[TYPED_LENGTH];
        private int lines = 0;
        private int next = 0;
        private int typedCount = 0;

        void empty() {
            lines = 0;
            next = 0;
            typedCount = 0;
            Arrays.fill(variables, 0);
        }

        void keepTyped(int c) {
            if (typedCount < TYPED_LENGTH) {
                typed[typedCount] = c;
                typedCount++;
            }
        }

        void removeLines() {
            lines = 0;
            next = 0;
        }

        void clearVariables() {
            Arrays.fill(variables, 0);
        }

        int nextLine() {
            int line = placeOf(next);
            return line < lines ? line : NONE;
        }

        int numberOf(int line) {
            return line >= 0 && line < lines ? numbers[line] : 0;
        }

        void remove(int number) {
            int line = placeOf(number);
            if (numberOf(line) == number) {
                moveLines(line + 1, line);
                lines--;
            }
        }

        /** False: there are as many lines as there may be, and none of this number. */
        boolean put(int number, int[] row, int from, int length) {
            if (length < 1 || length > LINE_LENGTH || from < 0 || from > row.length - length) {
                return false;
            }
            int line = placeOf(number);
            if (numberOf(line) != number) {
                if (lines == MOST_LINES) {
                    return false;
                }
                moveLines(line, line + 1);
                lines++;
            }
            numbers[line] = number;
            lengths[line] = length;
            System.arraycopy(row, from, texts, line * LINE_LENGTH, length);
            return true;
        }

        int tag(int line) {
            return TAG_UNIT * numbers[line] + lengths[line];
        }

        int packed(int line, int part) {
            int cell = 0;
            for (int k = 0; k < PACKED; k++) {
                int i = PACKED * part + k;
                cell = cell << 8 | (i < lengths[line] ? texts[line * LINE_LENGTH + i] : 0);
            }
            return cell;
        }

        void putPacked(int tag, int first, int second, int third) {
            unpack(first, 0);
            unpack(second, PACKED);
            unpack(third, 2 * PACKED);
            put(tag / TAG_UNIT, unpacked, 0, tag % TAG_UNIT);
        }

        private void unpack(int cell, int from) {
            for (int k = 0; k < PACKED; k++) {
                unpacked[from + k] = cell >> 8 * (PACKED - 1 - k) & 255;
            }
        }

        /** Where the line of the least number not below this one is, or would be. */
        private int placeOf(int number) {
            int line = 0;
            while (line < lines && numbers[line] < number) {
                line++;
            }
            return line;
        }

        /** Callers see to it that the lines from there on fit in at their new place. */
        private void moveLines(int from, int to) {
            int count = lines - from;
            System.arraycopy(numbers, from, numbers, to, count);
            System.arraycopy(lengths, from, lengths, to, count);
            System.arraycopy(texts, from * LINE_LENGTH, texts, to * LINE_LENGTH, count * LINE_LENGTH);
        }
    }

    /** Reads a statement and works out its values on the way: what is checked is just what is run. */
    private static final class Statement {
        private static final int NUMBER_DIGITS = 5;
        private static final int LINE_DIGITS = 2;

        private final int[] text = new int[LINE_LENGTH];
        private final int[] variables = new int[VARIABLES];
        private int end = 0;
        private int at = 0;
        private boolean good = false;

        /** The statement's first letter, or = for one that gives a variable its value. */
        private int kind = 0;
        private int variable = 0;
        private int file = 0;
        private int left = 0;
        private int sign = 0;
        private int right = 0;
        private int target = 0;

        /** Whether the characters are just one statement. */
        boolean read(int[] row, int from, int length, int[] values) {
            good = take(row, from, length, values);
            switch (kind) {
                case '=':
                    variable = variable();
                    expect('=');
                    left = value(0);
                    break;
                case 'P':
                    left = value(0);
                    break;
                case 'I':
                    left = value(0);
                    sign = sign();
                    right = value(0);
                    expect('G');
                    target = lineNumber();
                    break;
                case 'G':
                    target = lineNumber();
                    break;
                case 'E':
                    break;
                case 'W':
                    file = fileDigit();
                    expect(',');
                    left = value(0);
                    expect(',');
                    right = value(0);
                    break;
                case 'R':
                    file = fileDigit();
                    expect(',');
                    left = value(0);
                    expect(',');
                    variable = variable();
                    break;
                default:
                    good = false;
            }
            return good && at == end;
        }

        boolean jumps() {
            if (kind != 'I') {
                return kind == 'G';
            }
            return sign == '<' ? left < right : sign == '>' ? left > right : left == right;
        }

        private boolean take(int[] row, int from, int length, int[] values) {
            kind = 0;
            if (length < 1 || length > LINE_LENGTH || from < 0 || from > row.length - length) {
                return false;
            }
            System.arraycopy(row, from, text, 0, length);
            System.arraycopy(values, 0, variables, 0, VARIABLES);
            end = length;
            kind = length > 1 && isVariable(text[0]) && text[1] == '=' ? '=' : text[0];
            // A text that begins with = itself is read from there too, and fails for want of a variable.
            at = kind == '=' ? 0 : 1;
            return true;
        }

        private int value(int depth) {
            int sum = product(depth);
            for (int k = 0; k < LINE_LENGTH && (peek() == '+' || peek() == '-'); k++) {
                boolean adds = peek() == '+';
                at++;
                int product = product(depth);
                sum = adds ? sum + product : sum - product;
            }
            return sum;
        }

        private int product(int depth) {
            int product = piece(depth);
            for (int k = 0; k < LINE_LENGTH && peek() == '*'; k++) {
                at++;
                product *= piece(depth);
            }
            return product;
        }

        private int piece(int depth) {
            if (isDigit(peek())) {
                return digits(NUMBER_DIGITS);
            }
            if (peek() != '(') {
                return variables[variable()];
            }
            if (depth >= LINE_LENGTH) {
                good = false;
                return 0;
            }
            at++;
            int inner = value(depth + 1);
            expect(')');
            return inner;
        }

        /** What is no character here is no character of any statement. */
        private int peek() {
            return at < end ? text[at] : NONE;
        }

        private void expect(int c) {
            if (peek() == c) {
                at++;
            } else {
                good = false;
            }
        }

        private int digits(int most) {
            int number = 0;
            int start = at;
            while (at < start + most && isDigit(peek())) {
                number = 10 * number + peek() - '0';
                at++;
            }
            return number;
        }

        private int lineNumber() {
            // No digits at all are 0 as well, and no number of a line either.
            int number = digits(LINE_DIGITS);
            if (number == 0) {
                good = false;
            }
            return number;
        }

        private int variable() {
            if (!isVariable(peek())) {
                good = false;
                return 0;
            }
            int index = peek() - 'A';
            at++;
            return index;
        }

        private int fileDigit() {
            if (!isFileDigit(peek())) {
                good = false;
                return 0;
            }
            int digit = peek() - '0';
            at++;
            return digit;
        }

        private int sign() {
            int c = peek();
            if (c != '<' && c != '=' && c != '>') {
                good = false;
                return '=';
            }
            at++;
            return c;
        }
    }
}
