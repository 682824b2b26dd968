/** Promise 9. */
public final class DiskTest {
    public static void main(String[] args) {
        refuses();
        everyCellIsSeen();
        Check.end("DiskTest");
    }

    private static void refuses() {
        LineDisk x = new LineDisk();
        int[] wrong = {-1, 512, 513, Integer.MIN_VALUE, Integer.MAX_VALUE};
        for (int a : wrong) {
            Check.fails("disk(" + a + ")", IndexOutOfBoundsException.class, () -> x.disk(a));
        }
        Check.same("disk(0)", 0, x.disk(0));
        Check.same("disk(511)", 0, x.disk(511));
    }

    /** Programs of ten lines fill blocks 9 to 29, and one of five 30 and 31. */
    private static void everyCellIsSeen() {
        LineDisk x = Check.formatted("1P1", "2P2", "3P3", "4P4", "5P5", "6P6", "7P7", "8P8", "9P9", "10E");
        for (int n = 0; n < 7; n++) {
            Check.types(x, 0, "S" + n);
        }
        Check.typeAll(x, "9", "10", "8", "7", "6", "S7");
        for (int n = 0; n < 7; n++) {
            Check.same("lines of file " + n, 10, x.disk(144 + 48 * n));
            Check.cells(x, 144 + 48 * n + 29, 16 * 8 + 2, 'P' << 24 | '8' << 16);
            Check.cells(x, 144 + 48 * n + 37, 16 * 10 + 1, 'E' << 24, 0, 0);
        }
        Check.cells(x, 480, 5, 18, 'P' << 24 | '1' << 16);
        Check.cells(x, 497, 16 * 5 + 2, 'P' << 24 | '5' << 16);
        Check.typeAll(x, "D7", "N", "1E", "S7", "1W6,0,1", "D6", "D5", "1W5,0,8", "2W6,15,9");
        Check.same("step(2)", 6, x.step(2));
        Check.cells(x, 26, 16, 24, 16, 25, 5, 30);
        Check.cells(x, 400, 0, 0, 0, 0, 0, 0, 0, 0, 0, 0, 0, 0, 0, 0, 0, 9);
    }
}
