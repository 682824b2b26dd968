import java.util.ArrayList;
import java.util.Arrays;
import java.util.List;
import java.util.Map;
import java.util.TreeMap;
import java.util.regex.Matcher;
import java.util.regex.Pattern;

/**
 * The document once more, written in another way than the program (patterns, maps and exceptions), so that the two
 * are unlikely to share a mistake.
 */
final class Model {
    private static final String VALUE = valuePattern(6);
    private static final Pattern LET = Pattern.compile("([A-H])=(" + VALUE + ")");
    private static final Pattern PRINT = Pattern.compile("P(" + VALUE + ")");
    private static final Pattern IF =
            Pattern.compile("I(" + VALUE + ")([<=>])(" + VALUE + ")G(0[1-9]|[1-9][0-9]?)");
    private static final Pattern GOTO = Pattern.compile("G(0[1-9]|[1-9][0-9]?)");
    private static final Pattern WRITE = Pattern.compile("W([0-7]),(" + VALUE + "),(" + VALUE + ")");
    private static final Pattern READ = Pattern.compile("R([0-7]),(" + VALUE + "),([A-H])");

    private final int[][] blocks = new int[32][16];
    private int crash = -1;
    private boolean dead = false;
    private int writes = 0;
    private final TreeMap<Integer, String> lines = new TreeMap<>();
    private final Map<Character, Integer> variables = new TreeMap<>();
    private int next = 0;
    private List<Integer> typed = new ArrayList<>();
    private final List<Integer> numbersOut = new ArrayList<>();

    private static final class Crash extends RuntimeException {
        private static final long serialVersionUID = 1L;
    }

    private static final class Failure extends RuntimeException {
        private static final long serialVersionUID = 1L;
        private final int answer;

        Failure(int answer) {
            this.answer = answer;
        }
    }

    /** A text of 12 characters has room for no more than six nested pairs of brackets. */
    private static String valuePattern(int depth) {
        String piece = depth == 0 ? "(?:[0-9]{1,5}|[A-H])" : "(?:[0-9]{1,5}|[A-H]|\\(" + valuePattern(depth - 1) + "\\))";
        return piece + "(?:[-+*]" + piece + ")*";
    }

    int format() {
        return living(() -> {
            write(2, new int[16]);
            write(1, new int[16]);
            int[] head = new int[16];
            head[0] = 7077;
            write(0, head);
            return 0;
        });
    }

    int recover() {
        dead = false;
        emptyWorkspace();
        int answer = living(() -> {
            needFormat();
            int count = blocks[2][0];
            for (int k = 1; k <= count; k++) {
                write(blocks[2][k], blocks[2 + k].clone());
            }
            if (count != 0) {
                write(2, new int[16]);
            }
            return 0;
        });
        crash = -1;
        return answer;
    }

    int feed(int c) {
        return living(() -> {
            if (c != 10) {
                if (typed.size() < 15) {
                    typed.add(c);
                }
                return 0;
            }
            StringBuilder text = new StringBuilder();
            for (int one : typed) {
                text.append(one >= 32 && one < 127 ? (char) one : '?');
            }
            typed = new ArrayList<>();
            return entered(text.toString());
        });
    }

    int step(int n) {
        return living(() -> {
            for (int i = 0; i < Math.min(50, Math.max(1, n)); i++) {
                Map.Entry<Integer, String> line = lines.ceilingEntry(next);
                if (line == null || line.getValue().equals("E")) {
                    next = 0;
                    return 0;
                }
                next = run(line.getKey(), line.getValue());
            }
            return 6;
        });
    }

    void arm(int w) {
        crash = w;
    }

    /** null where there is none. */
    Integer out(int i) {
        return i >= 0 && i < Math.min(60, numbersOut.size()) ? numbersOut.get(i) : null;
    }

    int outs() {
        return numbersOut.size();
    }

    int disk(int a) {
        return blocks[a / 16][a % 16];
    }

    int files() {
        return living(() -> {
            needFormat();
            int count = 0;
            for (int n = 0; n < 8; n++) {
                count += cellsOf(n) == 0 ? 0 : 1;
            }
            return count;
        });
    }

    int about(int what) {
        if (what == 11) {
            return writes;
        }
        return living(() -> {
            if (what == 0) {
                return lines.size();
            }
            if (what == 9) {
                Integer number = lines.ceilingKey(next);
                return number == null ? 0 : number;
            }
            if (what == 10) {
                return typed.size();
            }
            return what >= 1 && what <= 8 ? variables.getOrDefault((char) ('A' + what - 1), 0) : -1;
        });
    }

    boolean isDead() {
        return dead;
    }

    private int living(java.util.function.IntSupplier call) {
        if (dead) {
            return 7;
        }
        try {
            return call.getAsInt();
        } catch (Failure e) {
            return e.answer;
        } catch (Crash e) {
            dead = true;
            crash = -1;
            emptyWorkspace();
            return 7;
        }
    }

    private void emptyWorkspace() {
        lines.clear();
        variables.clear();
        next = 0;
        typed.clear();
    }

    private void write(int block, int[] cells) {
        if (crash == 0) {
            throw new Crash();
        }
        crash = crash < 0 ? crash : crash - 1;
        blocks[block] = cells;
        writes++;
    }

    private void transaction(TreeMap<Integer, int[]> changed) {
        int[] head = new int[16];
        for (Map.Entry<Integer, int[]> one : changed.entrySet()) {
            write(3 + head[0], one.getValue().clone());
            head[0]++;
            head[head[0]] = one.getKey();
        }
        write(2, head);
        for (Map.Entry<Integer, int[]> one : changed.entrySet()) {
            write(one.getKey(), one.getValue().clone());
        }
        write(2, new int[16]);
    }

    private void needFormat() {
        if (blocks[0][0] != 7077) {
            throw new Failure(8);
        }
    }

    private int cellsOf(int n) {
        return blocks[1][2 * n];
    }

    private int firstOf(int n) {
        return blocks[1][2 * n + 1];
    }

    private static int blocksOf(int cells) {
        return (int) Math.ceil(cells / 16.0);
    }

    private int room(int n, int m) {
        boolean[] used = new boolean[32];
        for (int other = 0; other < 8; other++) {
            for (int k = 0; other != n && k < blocksOf(cellsOf(other)); k++) {
                used[firstOf(other) + k] = true;
            }
        }
        int row = 0;
        for (int block = 9; block < 32; block++) {
            row = used[block] ? 0 : row + 1;
            if (row == m) {
                return block - m + 1;
            }
        }
        throw new Failure(9);
    }

    /** The file's cells, with the directory that knows them, in one transaction. */
    private void makeFile(int n, int[] cells) {
        int m = blocksOf(cells.length);
        int first = m == 0 ? 0 : room(n, m);
        TreeMap<Integer, int[]> changed = new TreeMap<>();
        int[] directory = blocks[1].clone();
        directory[2 * n] = cells.length;
        directory[2 * n + 1] = first;
        changed.put(1, directory);
        int[] padded = Arrays.copyOf(cells, 16 * m);
        for (int k = 0; k < m; k++) {
            changed.put(first + k, Arrays.copyOfRange(padded, 16 * k, 16 * k + 16));
        }
        transaction(changed);
    }

    private int entered(String text) {
        Matcher line = Pattern.compile("([0-9]{1,2})(.*)").matcher(text);
        if (text.isEmpty()) {
            return 0;
        }
        return line.matches() ? enteredLine(Integer.parseInt(line.group(1)), line.group(2)) : command(text);
    }

    private int enteredLine(int number, String rest) {
        if (number == 0) {
            return 2;
        }
        if (rest.isEmpty()) {
            lines.remove(number);
            return 0;
        }
        if (rest.length() > 12 || !isStatement(rest)) {
            return 2;
        }
        if (lines.size() == 10 && !lines.containsKey(number)) {
            return 9;
        }
        lines.put(number, rest);
        return 0;
    }

    private static boolean isStatement(String text) {
        return text.equals("E") || LET.matcher(text).matches() || PRINT.matcher(text).matches()
                || IF.matcher(text).matches() || GOTO.matcher(text).matches() || WRITE.matcher(text).matches()
                || READ.matcher(text).matches();
    }

    private int command(String text) {
        if (text.equals("N")) {
            lines.clear();
            next = 0;
        } else if (text.equals("C")) {
            variables.clear();
            numbersOut.clear();
            next = 0;
        } else if (text.equals("F")) {
            needFormat();
            for (int n = 0; n < 8; n++) {
                if (cellsOf(n) != 0) {
                    numbersOut.addAll(List.of(n, cellsOf(n)));
                }
            }
        } else if (text.matches("[SLD][0-7]")) {
            needFormat();
            fileCommand(text.charAt(0), text.charAt(1) - '0');
        } else {
            return 2;
        }
        return 0;
    }

    private void fileCommand(char letter, int n) {
        if (letter == 'S') {
            save(n);
        } else if (cellsOf(n) == 0) {
            throw new Failure(3);
        } else if (letter == 'D') {
            makeFile(n, new int[0]);
        } else if (cellsOf(n) == 16) {
            throw new Failure(3);
        } else {
            load(n);
        }
    }

    private void save(int n) {
        if (lines.isEmpty()) {
            throw new Failure(9);
        }
        List<Integer> cells = new ArrayList<>(List.of(lines.size()));
        for (Map.Entry<Integer, String> line : lines.entrySet()) {
            cells.add(16 * line.getKey() + line.getValue().length());
            String padded = (line.getValue() + "\0\0\0\0\0\0\0\0\0\0\0\0").substring(0, 12);
            for (int k = 0; k < 12; k += 4) {
                cells.add(((padded.charAt(k) * 256 + padded.charAt(k + 1)) * 256 + padded.charAt(k + 2)) * 256
                        + padded.charAt(k + 3));
            }
        }
        makeFile(n, cells.stream().mapToInt(c -> c).toArray());
    }

    private void load(int n) {
        lines.clear();
        next = 0;
        int at = 16 * firstOf(n);
        for (int k = 0; k < disk(16 * firstOf(n)); k++) {
            StringBuilder text = new StringBuilder();
            for (int i = 0; i < disk(at + 1) % 16; i++) {
                text.append((char) (disk(at + 2 + i / 4) / (1 << 8 * (3 - i % 4)) % 256));
            }
            lines.put(disk(at + 1) / 16, text.toString());
            at += 4;
        }
    }

    /** The new NEXT. */
    private int run(int number, String text) {
        Matcher m = LET.matcher(text);
        if (m.matches()) {
            variables.put(m.group(1).charAt(0), value(m.group(2)));
            return number + 1;
        }
        m = PRINT.matcher(text);
        if (m.matches()) {
            numbersOut.add(value(m.group(1)));
            return number + 1;
        }
        m = IF.matcher(text);
        if (m.matches()) {
            int signum = Integer.compare(value(m.group(1)), value(m.group(3)));
            boolean holds = signum == "<=>".indexOf(m.group(2)) - 1;
            return holds ? Integer.parseInt(m.group(4)) : number + 1;
        }
        m = GOTO.matcher(text);
        if (m.matches()) {
            return Integer.parseInt(m.group(1));
        }
        m = WRITE.matcher(text);
        if (m.matches()) {
            writeRecord(Integer.parseInt(m.group(1)), value(m.group(2)), value(m.group(3)));
            return number + 1;
        }
        m = READ.matcher(text);
        if (!m.matches()) {
            throw new IllegalStateException("the model holds a line that is no statement: " + text);
        }
        variables.put(m.group(3).charAt(0), record(Integer.parseInt(m.group(1)), value(m.group(2))));
        return number + 1;
    }

    private void writeRecord(int n, int i, int value) {
        needFormat();
        if (i < 0 || i > 15 || cellsOf(n) != 0 && cellsOf(n) != 16) {
            throw new Failure(4);
        }
        int[] cells = cellsOf(n) == 0 ? new int[16] : blocks[firstOf(n)].clone();
        cells[i] = value;
        if (cellsOf(n) == 0) {
            makeFile(n, cells);
        } else {
            transaction(new TreeMap<>(Map.of(firstOf(n), cells)));
        }
    }

    private int record(int n, int i) {
        needFormat();
        if (i < 0 || i > 15) {
            throw new Failure(4);
        }
        if (cellsOf(n) != 16) {
            throw new Failure(cellsOf(n) == 0 ? 3 : 4);
        }
        return blocks[firstOf(n)][i];
    }

    /** Split at the last sign outside brackets, + and - ahead of *. */
    private int value(String text) {
        int at = lastOutside(text, "+-");
        at = at < 0 ? lastOutside(text, "*") : at;
        if (at >= 0) {
            int left = value(text.substring(0, at));
            int right = value(text.substring(at + 1));
            return text.charAt(at) == '+' ? left + right : text.charAt(at) == '-' ? left - right : left * right;
        }
        if (text.charAt(0) == '(') {
            return value(text.substring(1, text.length() - 1));
        }
        return Character.isLetter(text.charAt(0)) ? variables.getOrDefault(text.charAt(0), 0) : Integer.parseInt(text);
    }

    private static int lastOutside(String text, String signs) {
        int depth = 0;
        for (int i = text.length() - 1; i >= 0; i--) {
            char c = text.charAt(i);
            depth += c == ')' ? 1 : c == '(' ? -1 : 0;
            if (depth == 0 && signs.indexOf(c) >= 0) {
                return i;
            }
        }
        return -1;
    }
}
