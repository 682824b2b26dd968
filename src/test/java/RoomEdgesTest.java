/** What "Terms" says of room: the first place, the last one, gaps that are just large enough, and none. */
public final class RoomEdgesTest {
    public static void main(String[] args) {
        Check.sentence("ROOM for m blocks is the least place in 9 .. 31", RoomEdgesTest::theFirstPlace);
        Check.sentence("the least place", RoomEdgesTest::theLeastOfSomeGaps);
        Check.sentence("in 9 .. 31 at which m blocks are in a row", RoomEdgesTest::theLastPlace);
        Check.sentence("m blocks are in a row", RoomEdgesTest::aGapTooSmall);
        Check.sentence("m blocks are in a row that no other file uses", RoomEdgesTest::aGapJustLargeEnough);
        Check.sentence("that no other file uses", RoomEdgesTest::noRoom);
        Check.sentence("that no other file uses: of free blocks that are not in a row", RoomEdgesTest::noRoomInARow);
        Check.sentence("(a file that is written anew may take its own)", RoomEdgesTest::itsOwnBlocks);
        Check.sentence("(a file that is written anew may take its own) when the disk is full",
                RoomEdgesTest::itsOwnBlocksOnAFullDisk);
        Check.sentence("(a file that is written anew may take its own): and may leave them",
                RoomEdgesTest::aFileMoves);
        Check.end("RoomEdgesTest");
    }

    private static Bench saved(Bench b, String... files) {
        for (String n : files) {
            b.type(0, "S" + n);
        }
        return b;
    }

    private static void theFirstPlace() {
        Bench.formatted("1E", "S5").file(5, 5, 9);
        Bench.formatted().lines(4).type(0, "S5").file(5, 17, 9);
        Bench.formatted().lines(10).type(0, "S5").file(5, 41, 9);
        Bench.formatted("1W5,0,0").step(6, 1).file(5, 16, 9);
    }

    /** Blocks 10 and 12 are free, and all behind 13. */
    private static void theLeastOfSomeGaps() {
        Bench b = saved(Bench.formatted("1E"), "0", "1", "2", "3", "4").type(0, "D1", "D3");
        b.type(0, "S6").file(6, 5, 10).type(0, "S7").file(7, 5, 12).type(0, "S1").file(1, 5, 14);
    }

    private static void theLastPlace() {
        Bench two = saved(Bench.formatted().lines(10), "0", "1", "2", "3", "4", "5", "6");
        two.type(0, "8", "9", "10", "S7").file(7, 29, 30).cells(496 + 9, 16 * 7 + 1);
        Bench three = saved(Bench.formatted().lines(10), "0", "1", "2", "3", "4", "5");
        three.type(0, "8", "9", "10", "S6").file(6, 29, 27)
                .type(0, "8E", "9E", "S7").file(7, 37, 29).cells(497, 16 * 9 + 1);
    }

    /** File 0 leaves a gap of one block, file 2 one of two: too small for two, and for three. */
    private static void aGapTooSmall() {
        Bench b = saved(Bench.formatted("1E"), "0", "1").lines(4);
        saved(b, "2").type(0, "4", "3", "2", "S3", "D0", "D2").file(1, 5, 10).file(3, 5, 13);
        b.lines(8).type(0, "S4").file(4, 33, 14);
        b.type(0, "D4", "8", "D3", "S5").file(5, 29, 11);
        b.type(0, "D1", "S6").file(6, 29, 9);
    }

    private static void aGapJustLargeEnough() {
        Bench one = saved(Bench.formatted("1E"), "0", "1", "2").type(0, "D1", "S3").file(3, 5, 10);
        one.type(0, "D3", "1W4,0,0").step(6, 1).file(4, 16, 10);
        Bench two = saved(Bench.formatted().lines(4), "0", "1", "2").type(0, "D1", "S3").file(3, 17, 11);
        two.type(0, "D0", "S4").file(4, 17, 9);
        Bench three = saved(Bench.formatted().lines(8), "0", "1", "2").type(0, "D1", "S3").file(3, 33, 12);
        three.type(0, "D0", "S4").file(4, 33, 9);
    }

    /** Seven files of three blocks leave two, 30 and 31. */
    private static void noRoom() {
        Bench b = saved(Bench.formatted().lines(10), "0", "1", "2", "3", "4", "5", "6");
        b.type(9, "S7").writes(3 + 7 * 10).noFile(7).files(7).type(0, "8", "9", "10", "S7").file(7, 29, 30);
    }

    /** A file of one block and seven of three leave block 31; without the small one 9 is free as well. */
    private static void noRoomInARow() {
        Bench b = saved(Bench.formatted("1E"), "0").lines(10);
        saved(b, "1", "2", "3", "4", "5", "6", "7").file(1, 41, 10).file(7, 41, 28);
        b.type(0, "5", "6", "7", "8", "9", "10").type(9, "S0").file(0, 5, 9).cells(144, 1, 17);
        b.type(0, "D0").type(9, "S0").noFile(0).type(0, "4", "S0").file(0, 13, 9);
    }

    private static void itsOwnBlocks() {
        saved(Bench.formatted("1E"), "0", "1").type(0, "S0").file(0, 5, 9).type(0, "S1").file(1, 5, 10);
        saved(Bench.formatted("1E"), "0", "1").type(0, "D0").lines(4).type(0, "S1").file(1, 17, 9);
        saved(Bench.formatted("1E"), "0", "1").lines(4).type(0, "S1").file(1, 17, 10);
        saved(Bench.formatted("1E"), "0", "1").lines(10).type(0, "S1").file(1, 41, 10).type(0, "S2").file(2, 41, 13);
    }

    private static void itsOwnBlocksOnAFullDisk() {
        Bench b = saved(Bench.formatted().lines(10), "0", "1", "2", "3", "4", "5", "6");
        b.type(0, "8", "9", "10", "S7").file(7, 29, 30).type(0, "S7").file(7, 29, 30);
        b.type(0, "8E", "9E", "10E", "S3").file(3, 41, 18).type(9, "S7").file(7, 29, 30);
    }

    private static void aFileMoves() {
        Bench b = saved(Bench.formatted("1E"), "0", "1").lines(4).type(0, "S0").file(0, 17, 11).cells(144, 1, 17);
        b.type(0, "2", "3", "4", "S1").file(1, 5, 9).type(0, "S0").file(0, 5, 10);
    }
}
