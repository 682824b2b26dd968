import java.util.function.Consumer;

/** What "Terms" says of the disk, a crash and a transaction: each sentence that names a boundary has its own test. */
public final class DiskEdgesTest {
    /** How many blocks a file of 1 to 10 lines needs. */
    private static final int[] BLOCKS_OF_LINES = {1, 1, 1, 2, 2, 2, 2, 3, 3, 3};

    public static void main(String[] args) {
        Check.sentence("THE DISK has 32 BLOCKS of 16 CELLS", DiskEdgesTest::theLastBlock);
        Check.sentence("cell a is cell a % 16 of block a / 16", DiskEdgesTest::cellsAtTheEdgesOfBlocks);
        Check.sentence("all 0 at first", DiskEdgesTest::allZeroAtFirst);
        Check.sentence("It is changed only by WRITES of whole blocks.", DiskEdgesTest::refusedCallsChangeNothing);
        Check.sentence("each write lowers it by 1", DiskEdgesTest::eachWriteLowersIt);
        Check.sentence("a write when it is 0 is not made, and the machine is DEAD", DiskEdgesTest::aWriteAtZero);
        Check.sentence("cell 0 is 7077 when the disk is FORMATTED", DiskEdgesTest::formattedOrNot);
        Check.sentence("of file n (0 .. 7) cells 2 n and 2 n + 1", DiskEdgesTest::firstAndLastFile);
        Check.sentence("how many CELLS it has (0: no such file), and its first block", DiskEdgesTest::noSuchFile);
        Check.sentence("cell 0 how many blocks the log has (0: nothing is committed)", DiskEdgesTest::committedOrNot);
        Check.sentence("A file's blocks are as many as its cells need", DiskEdgesTest::blocksOfAFile);
        Check.sentence("one behind the other from its first block", DiskEdgesTest::blocksInARow);
        Check.sentence("they are written to 3, 4, ..; then the log's head for them (its other cells 0); "
                + "then the blocks themselves; then the log's head with nothing but 0",
                DiskEdgesTest::aCrashAheadOfEachWrite);
        Check.sentence("the log's head for them (its other cells 0)", DiskEdgesTest::otherCellsOfTheLogsHead);
        Check.sentence("then the log's head with nothing but 0", DiskEdgesTest::theLogsHeadIsEmptyBehindIt);
        Check.sentence("It takes at most 6 blocks.", DiskEdgesTest::theLargestTransaction);
        Check.end("DiskEdgesTest");
    }

    /** Seven files of three blocks take 9 to 29, so that one of two takes 30 and 31. */
    private static Bench full() {
        Bench b = Bench.formatted().lines(10);
        for (int n = 0; n < 7; n++) {
            b.type(0, "S" + n);
        }
        return b.type(0, "8", "9", "10", "S7");
    }

    private static void theLastBlock() {
        full().file(7, 29, 30).cells(496 + 9, 16 * 7 + 1, 'E' << 24, 0, 0, 0, 0, 0).diskFails(512);
    }

    private static void cellsAtTheEdgesOfBlocks() {
        full().cells(15, 0, 41, 9).cells(143, 0, 10, 17).cells(191, 0, 10, 17).cells(479, 0, 7, 17);
    }

    private static void allZeroAtFirst() {
        Bench b = new Bench();
        for (int a = 0; a < 512; a++) {
            b.cells(a, 0);
        }
    }

    private static void refusedCallsChangeNothing() {
        Consumer<Bench> files = b -> b.format(0).type(0, "1W2,0,5").step(6, 1).type(0, "S1");
        Consumer<Bench> refused = files.andThen(b -> b.type(0, "L1", "F", "C")
                .type(2, "S8", "SS", "1W8,0,1").type(3, "L2", "L3", "D3")
                .type(0, "1W1,0,1").step(4, 1).type(0, "1W2,16,1").step(4, 1)
                .type(0, "1R3,0,A").step(3, 1).type(0, "N").type(9, "S1").step(0, 1).writes(15));
        Bench.sameImage("nothing is written", files, refused);
    }

    private static void eachWriteLowersIt() {
        new Bench().arm(4).format(0).writes(3).format(7).writes(4);
        new Bench().arm(10).format(0).type(0, "1E", "S0").writes(9).type(7, "D0").writes(10);
        new Bench().arm(9).format(0).type(0, "1E", "S0").type(7, "D0").writes(9);
    }

    private static void aWriteAtZero() {
        new Bench().arm(0).format(7).writes(0).files(7).cells(0, 0);
        Bench.formatted("1E", "S0").arm(0).type(7, "D0").writes(9).files(7).cells(48, 5, 9).file(0, 5, 9);
        Bench.formatted("1E", "S0").arm(1).type(7, "D0").writes(10).files(7).cells(48, 0, 0).file(0, 5, 9);
        Bench.formatted("1E", "S0").arm(0).type(0, "L0", "F").step(0, 1).files(1);
    }

    private static void formattedOrNot() {
        new Bench().cells(0, 0).files(8).arm(2).format(7).cells(0, 0).recover(8).files(8);
        new Bench().format(0).cells(0, 7077).files(0);
    }

    private static void firstAndLastFile() {
        Bench.formatted("1E", "S0", "S7").cells(16, 5, 9).cells(30, 5, 10).cells(32, 0).cells(15, 0);
    }

    private static void noSuchFile() {
        Bench b = Bench.formatted("1E");
        for (int n = 0; n < 8; n++) {
            b.noFile(n).type(3, "L" + n, "D" + n);
        }
        b.type(0, "S3", "L3").file(3, 5, 9).noFile(2).noFile(4);
    }

    private static void committedOrNot() {
        Bench.formatted("1E").arm(2).type(7, "S0").cells(32, 0).recover(0).writes(5).noFile(0);
        Bench.formatted("1E").arm(3).type(7, "S0").cells(32, 2).recover(0).writes(9).file(0, 5, 9);
    }

    private static void blocksOfAFile() {
        for (int count = 1; count <= 10; count++) {
            int blocks = BLOCKS_OF_LINES[count - 1];
            Bench.formatted().lines(count).type(0, "S0").file(0, 1 + 4 * count, 9).writes(3 + 2 * (1 + blocks) + 2)
                    .type(0, "S1").file(1, 1 + 4 * count, 9 + blocks);
        }
        Bench.formatted("1W0,0,1").step(6, 1).file(0, 16, 9).writes(9).type(0, "S1").file(1, 5, 10);
    }

    private static void blocksInARow() {
        Bench b = Bench.formatted().lines(10).type(0, "S0").cells(144, 10);
        for (int number = 1; number <= 10; number++) {
            b.cells(144 + 4 * number - 3, 16 * number + 1, 'E' << 24, 0, 0);
        }
        b.cells(144 + 41, 0, 0, 0, 0, 0, 0, 0);
    }

    /** The directory and three blocks of a file: ten writes, of which the first w are made. */
    private static void aCrashAheadOfEachWrite() {
        for (int w = 0; w <= 10; w++) {
            Bench b = Bench.formatted().lines(10).arm(w).type(w < 10 ? 7 : 0, "S0").writes(3 + w);
            b.cells(48, w > 0 ? 41 : 0, w > 0 ? 9 : 0);
            b.cells(64, w > 1 ? 10 : 0, w > 1 ? 17 : 0);
            b.cells(81, w > 2 ? 16 * 5 + 1 : 0);
            b.cells(97, w > 3 ? 16 * 9 + 1 : 0);
            boolean committed = w > 4 && w < 10;
            b.cells(32, committed ? 4 : 0, committed ? 1 : 0, committed ? 9 : 0, committed ? 10 : 0,
                    committed ? 11 : 0, 0);
            b.cells(16, w > 5 ? 41 : 0, w > 5 ? 9 : 0);
            b.cells(144, w > 6 ? 10 : 0, w > 6 ? 17 : 0);
            b.cells(161, w > 7 ? 16 * 5 + 1 : 0);
            b.cells(177, w > 8 ? 16 * 9 + 1 : 0);
        }
    }

    private static void otherCellsOfTheLogsHead() {
        Bench.formatted().lines(10).type(0, "S0").arm(2).type(7, "D0")
                .cells(32, 1, 1, 0, 0, 0, 0, 0, 0, 0, 0, 0, 0, 0, 0, 0, 0);
        Bench.formatted().lines(10).arm(5).type(7, "S0")
                .cells(32, 4, 1, 9, 10, 11, 0, 0, 0, 0, 0, 0, 0, 0, 0, 0, 0);
    }

    private static void theLogsHeadIsEmptyBehindIt() {
        Bench.formatted().lines(10).type(0, "S0").cells(32, 0, 0, 0, 0, 0, 0, 0, 0, 0, 0, 0, 0, 0, 0, 0, 0);
        Bench.formatted().lines(10).arm(9).type(7, "S0").cells(32, 4).recover(0)
                .cells(32, 0, 0, 0, 0, 0, 0, 0, 0, 0, 0, 0, 0, 0, 0, 0, 0);
    }

    /** A file of ten lines and the directory are four blocks: no call makes more, and the log's 7 and 8 stay 0. */
    private static void theLargestTransaction() {
        Bench b = Bench.formatted().lines(10).type(0, "S0").writes(3 + 10).cells(97, 16 * 9 + 1);
        for (int a = 112; a < 144; a++) {
            b.cells(a, 0);
        }
    }
}
