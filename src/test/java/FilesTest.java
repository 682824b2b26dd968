/** Promise 4: S, L, D and F, and room on the disk. */
public final class FilesTest {
    public static void main(String[] args) {
        savedCells();
        missingCharactersAreZero();
        loadedLines();
        loadRefuses();
        deleted();
        listed();
        saveRefuses();
        roomIsTheLeastPlace();
        fileMayTakeItsOwnBlocks();
        fileMayMove();
        diskIsFull();
        lastBlockIsUsed();
        Check.end("FilesTest");
    }

    private static void savedCells() {
        LineDisk x = Check.formatted("99A=B*(3+C)-7", "1E", "20G=10", "S6");
        Check.cells(x, 28, 13, 9);
        Check.cells(x, 144, 3,
                17, 'E' << 24, 0, 0,
                16 * 20 + 4, 'G' << 24 | '=' << 16 | '1' << 8 | '0', 0, 0,
                16 * 99 + 11, 'A' << 24 | '=' << 16 | 'B' << 8 | '*', '(' << 24 | '3' << 16 | '+' << 8 | 'C',
                ')' << 24 | '-' << 16 | '7' << 8,
                0, 0, 0);
        Check.same("writes", 3 + 6, x.about(11));
        Check.same("lines", 3, x.about(0));
    }

    private static void missingCharactersAreZero() {
        LineDisk x = Check.formatted("1P1+2+3+4+5+6", "2P1+2+3+4+5+6", "3P1+2+3+4+5+6", "4P1+2+3+4+5+6", "S0");
        Check.typeAll(x, "1", "2", "3", "4", "1E", "2P1", "S0");
        Check.cells(x, 144, 2, 17, 'E' << 24, 0, 0, 34, 'P' << 24 | '1' << 16, 0, 0, 0, 0, 0, 0, 0, 0, 0);
        Check.cells(x, 16, 9, 9);
    }

    private static void loadedLines() {
        LineDisk x = Check.formatted("5P1+2+3+4+5+6", "7P(A)", "99P5", "S1", "N");
        Check.typeAll(x, "1A=9", "2P1", "3P2", "50P3");
        Check.same("step(2)", 6, x.step(2));
        int writes = x.about(11);
        Check.typeAll(x, "L1");
        Check.same("L writes nothing", writes, x.about(11));
        Check.same("lines", 3, x.about(0));
        Check.same("A", 9, x.about(1));
        Check.same("NEXT is 0", 5, x.about(9));
        Check.typeAll(x, "2P2");
        Check.same("NEXT is 0", 2, x.about(9));
        Check.same("step(50)", 0, x.step(50));
        Check.numbersOut(x, 1, 2, 21, 9, 5);
        Check.typeAll(x, "L1", "S2");
        Check.same("saved again it is the same", 0, differences(x, 9 * 16, 10 * 16));
    }

    private static int differences(LineDisk x, int one, int other) {
        int count = 0;
        for (int i = 0; i < 16; i++) {
            count += x.disk(one + i) == x.disk(other + i) ? 0 : 1;
        }
        return count;
    }

    private static void loadRefuses() {
        LineDisk x = Check.formatted("1W5,0,1", "2P2");
        Check.types(x, 3, "L5");
        Check.same("step(1)", 6, x.step(1));
        Check.types(x, 3, "L5");
        Check.types(x, 3, "L4");
        Check.same("lines", 2, x.about(0));
        Check.same("the next line", 2, x.about(9));
    }

    private static void deleted() {
        LineDisk x = Check.formatted("1E", "S0", "S7");
        Check.types(x, 3, "D3");
        Check.same("writes", 3 + 6 + 6, x.about(11));
        Check.typeAll(x, "D7");
        Check.same("writes", 3 + 6 + 6 + 4, x.about(11));
        Check.cells(x, 16, 5, 9, 0, 0);
        Check.cells(x, 30, 0, 0);
        Check.cells(x, 160, 1, 17);
        Check.types(x, 3, "D7");
        Check.types(x, 3, "L7");
        Check.same("files()", 1, x.files());
        Check.typeAll(x, "1W7,0,0");
        Check.same("step(1)", 6, x.step(1));
        Check.typeAll(x, "D7");
        Check.same("a record file goes too", 1, x.files());
    }

    private static void listed() {
        LineDisk x = Check.formatted("F");
        Check.numbersOut(x);
        Check.typeAll(x, "1W3,0,9", "2E", "S6", "F");
        Check.numbersOut(x, 6, 9);
        Check.same("step(1)", 6, x.step(1));
        Check.typeAll(x, "S0", "F");
        Check.numbersOut(x, 6, 9, 0, 9, 3, 16, 6, 9);
        Check.same("the next line", 2, x.about(9));
        for (int i = 0; i < 10; i++) {
            Check.types(x, 0, "F");
        }
        Check.same("outs()", 68, x.outs());
        Check.same("out(59)", 16, x.out(59));
    }

    private static void saveRefuses() {
        LineDisk x = new LineDisk();
        Check.types(x, 8, "S0");
        x.format();
        Check.types(x, 9, "S0");
        Check.same("writes", 3, x.about(11));
        Check.typeAll(x, "1E", "S0", "1");
        Check.types(x, 9, "S0");
        Check.same("the file stays", 5, x.disk(16));
    }

    private static void roomIsTheLeastPlace() {
        LineDisk x = Check.formatted("1E", "S0", "S1", "S2", "S3");
        Check.cells(x, 16, 5, 9, 5, 10, 5, 11, 5, 12);
        Check.typeAll(x, "D1", "D2", "2E", "3E", "S4");
        Check.cells(x, 24, 13, 10);
        Check.typeAll(x, "D4", "4E", "S4");
        Check.cells(x, 24, 17, 10);
        Check.typeAll(x, "S5");
        Check.cells(x, 26, 17, 13);
        Check.typeAll(x, "1W1,0,1");
        Check.same("step(1)", 6, x.step(1));
        Check.cells(x, 18, 16, 15);
    }

    private static void fileMayTakeItsOwnBlocks() {
        LineDisk x = Check.formatted("1E", "S0", "S1", "S0");
        Check.cells(x, 16, 5, 9, 5, 10);
        Check.typeAll(x, "D0", "2E", "3E", "4E", "S1");
        Check.cells(x, 18, 17, 9);
        Check.typeAll(x, "1W3,0,8");
        Check.same("step(1)", 6, x.step(1));
        Check.cells(x, 22, 16, 11);
        Check.typeAll(x, "1E", "S3");
        Check.cells(x, 22, 17, 11);
        Check.cells(x, 176, 4, 17);
    }

    private static void fileMayMove() {
        LineDisk x = Check.formatted("1E", "S0", "S1", "2E", "3E", "4E", "S0");
        Check.cells(x, 16, 17, 11, 5, 10);
        Check.cells(x, 144, 1, 17);
        Check.typeAll(x, "N", "1E", "S1");
        Check.cells(x, 18, 5, 9);
        Check.typeAll(x, "S0");
        Check.cells(x, 16, 5, 10);
    }

    private static LineDisk withTenLines() {
        LineDisk x = Check.formatted();
        for (int number = 1; number <= 10; number++) {
            Check.types(x, 0, number + "E");
        }
        return x;
    }

    private static void diskIsFull() {
        LineDisk x = withTenLines();
        for (int n = 0; n < 7; n++) {
            Check.types(x, 0, "S" + n);
            Check.cells(x, 16 + 2 * n, 41, 9 + 3 * n);
        }
        Check.same("writes", 3 + 7 * 10, x.about(11));
        Check.types(x, 9, "S7");
        Check.same("writes", 3 + 7 * 10, x.about(11));
        Check.same("files()", 7, x.files());
        Check.types(x, 0, "S3");
        Check.typeAll(x, "D3", "S7");
        Check.cells(x, 30, 41, 18);
        Check.typeAll(x, "9", "10", "8", "7", "6", "5", "S3");
        Check.cells(x, 22, 17, 30);
    }

    private static void lastBlockIsUsed() {
        LineDisk x = withTenLines();
        for (int n = 0; n < 7; n++) {
            Check.types(x, 0, "S" + n);
        }
        Check.typeAll(x, "1W7,15,4", "D0", "9", "10", "S0");
        Check.cells(x, 16, 33, 9);
        Check.same("step(1)", 6, x.step(1));
        Check.cells(x, 30, 16, 30);
        Check.typeAll(x, "D0", "D7", "N", "1E", "S0", "2E", "3E", "4E", "S7");
        Check.cells(x, 30, 17, 10);
        Check.typeAll(x, "D0", "1W0,15,4");
        Check.same("step(1)", 6, x.step(1));
        Check.cells(x, 16, 16, 9);
        Check.typeAll(x, "D1", "1E", "5E", "6E", "7E", "8E", "S1");
        Check.cells(x, 18, 33, 12);
        Check.typeAll(x, "D2", "S2", "D3", "4", "5", "6", "7", "8", "S3");
        Check.cells(x, 20, 33, 15);
        Check.cells(x, 22, 13, 18);
    }
}
