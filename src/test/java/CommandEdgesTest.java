/** What "Terms" says of a COMMAND: each sentence that names a boundary has its own test. */
public final class CommandEdgesTest {
    /** Statements of 1 to 12 characters. */
    private static final String[] OF_EACH_LENGTH = {
        "E", "G1", "A=1", "A=12", "A=123", "A=1234", "A=12345", "A=1+2345", "A=1+23456", "A=12+34567", "A=123+45678",
        "A=1234+56789",
    };
    private static final String TWELVE = "P1+2+3+4+5+6";

    public static void main(String[] args) {
        Check.sentence("the workspace's lines become file n", CommandEdgesTest::firstAndLastFile);
        Check.sentence("1 + 4 for each line cells: how many lines", CommandEdgesTest::oneLineAndTen);
        Check.sentence("for each 16 times its number and its length", CommandEdgesTest::numberAndLength);
        Check.sentence("then its characters, four in a cell, the first one highest, missing ones 0",
                CommandEdgesTest::charactersInCells);
        Check.sentence("missing ones 0 (so are the cells behind them in the last block)",
                CommandEdgesTest::cellsBehindThem);
        Check.sentence("9: no lines", CommandEdgesTest::noLines);
        Check.sentence("9: no lines, or no room.", CommandEdgesTest::noRoom);
        Check.sentence("L: the lines become those of file n", CommandEdgesTest::linesOfAFile);
        Check.sentence("the lines become those of file n, NEXT 0", CommandEdgesTest::nextIsZeroBehindL);
        Check.sentence("3: no such file, or one of 16 cells", CommandEdgesTest::loadRefuses);
        Check.sentence("D: it is no file any more (both its cells 0", CommandEdgesTest::deleted);
        Check.sentence("3: it was none", CommandEdgesTest::deletedTwice);
        Check.sentence("F: of each file its number and how many cells it has come out.", CommandEdgesTest::listed);
        Check.sentence("N: no lines, NEXT 0.", CommandEdgesTest::newProgram);
        Check.sentence("C: variables 0, nothing is out, NEXT 0.", CommandEdgesTest::cleared);
        Check.sentence("S, L, D, F, W and R: 8 ahead of all that is said of them, when the disk is not formatted.",
                CommandEdgesTest::eightAheadOfAll);
        Check.end("CommandEdgesTest");
    }

    private static void firstAndLastFile() {
        Bench b = Bench.formatted("1P1", "S0", "1P22", "S7").file(0, 5, 9).file(7, 5, 10).files(2);
        b.type(0, "L0").step(6, 1).type(0, "L7").step(6, 1).numbersOut(1, 22).lineCount(1);
    }

    private static void oneLineAndTen() {
        Bench.formatted("1E", "S0").file(0, 5, 9).cells(144, 1, 17, 'E' << 24, 0, 0, 0);
        Bench.formatted().lines(10).type(0, "S0").file(0, 41, 9).cells(144, 10)
                .cells(144 + 37, 161, 'E' << 24, 0, 0, 0);
    }

    private static void numberAndLength() {
        Bench.formatted("1E", "99" + TWELVE, "S0").cells(145, 16 * 1 + 1).cells(149, 16 * 99 + 12);
        Bench.formatted("1" + TWELVE, "99E", "S0").cells(145, 16 * 1 + 12).cells(149, 16 * 99 + 1);
    }

    private static void charactersInCells() {
        for (String text : OF_EACH_LENGTH) {
            int[] cells = new int[3];
            for (int i = 0; i < text.length(); i++) {
                cells[i / 4] += text.charAt(i) << 24 - i % 4 * 8;
            }
            Bench.formatted("7" + text, "S0").cells(145, 16 * 7 + text.length()).cells(146, cells).cells(149, 0);
        }
    }

    /** The blocks are full of another file's cells, which must not be seen behind those of the new one. */
    private static void cellsBehindThem() {
        Bench b = Bench.formatted();
        for (int number = 1; number <= 10; number++) {
            b.type(0, number + TWELVE);
        }
        b.type(0, "S0", "N", "1E", "S0").cells(144, 1, 17, 'E' << 24, 0, 0, 0, 0, 0, 0, 0, 0, 0, 0, 0, 0, 0);
        b.cells(160, '+' << 24 | '5' << 16 | '+' << 8 | '6');
        b.lines(4).type(0, "S0").cells(144 + 13, 65, 'E' << 24, 0, 0, 0, 0, 0, 0, 0, 0, 0, 0, 0, 0, 0, 0, 0, 0, 0);
    }

    private static void noLines() {
        Bench.formatted().type(9, "S0").files(0).writes(3).type(0, "1E", "S0", "N").type(9, "S0", "S1").files(1)
                .file(0, 5, 9).writes(9).type(0, "L0").lineCount(1);
    }

    private static void noRoom() {
        Bench b = Bench.formatted().lines(8);
        for (int n = 0; n < 7; n++) {
            b.type(0, "S" + n);
        }
        b.type(9, "S7").noFile(7).files(7).writes(3 + 7 * 10).lineCount(8).type(0, "8", "S7").file(7, 29, 30).files(8);
        b.type(0, "8E").type(9, "S7").file(7, 29, 30).type(0, "L7").lineCount(7);
    }

    private static void linesOfAFile() {
        Bench one = Bench.formatted("99P9", "S0", "1P1", "2P2").type(0, "L0").lineCount(1).nextLine(99).step(6, 1);
        one.numbersOut(9);
        Bench ten = Bench.formatted();
        for (int number = 1; number <= 10; number++) {
            ten.type(0, 9 * number + TWELVE);
        }
        ten.type(0, "S3", "N", "5E", "L3").lineCount(10).nextLine(9).step(0, 50).outs(10).out(21, 0).out(21, 9);
        for (String text : OF_EACH_LENGTH) {
            Bench b = Bench.formatted("5" + text, "S0", "N", "L0", "S1").cells(144 + 16, 1, 16 * 5 + text.length());
            Check.same("the first characters", b.cell(146), b.cell(162));
            Check.same("the next characters", b.cell(147), b.cell(163));
            Check.same("the last characters", b.cell(148), b.cell(164));
        }
    }

    private static void nextIsZeroBehindL() {
        Bench.formatted("5P1", "6G50", "S0").step(6, 2).nextLine(0).type(0, "L0").nextLine(5).type(0, "1E").nextLine(1);
        Bench.formatted("5P1", "6G6", "S0").step(6, 1).nextLine(6).type(3, "L1").nextLine(6);
    }

    private static void loadRefuses() {
        Bench b = Bench.formatted("1A=7", "2W4,0,1").step(6, 2).file(4, 16, 9).type(3, "L0", "L4", "L7");
        b.lineCount(2).variable('A', 7).nextLine(0).type(0, "S4").file(4, 9, 9).type(0, "L4");
        Bench.formatted("1E", "2E", "3E", "S0", "L0").file(0, 13, 9);
        Bench.formatted("1E", "2E", "3E", "4E", "S0", "L0").file(0, 17, 9);
    }

    private static void deleted() {
        Bench b = Bench.formatted("1E", "S0", "S7", "S3", "D7").file(0, 5, 9).noFile(7).file(3, 5, 11).files(2);
        b.type(0, "D0").noFile(0).files(1).type(0, "D3").noFile(3).files(0).lineCount(1);
        b.cells(144, 1, 17).writes(3 + 3 * 6 + 3 * 4).type(0, "1W3,0,1").step(6, 1).type(0, "D3").noFile(3).files(0);
    }

    private static void deletedTwice() {
        Bench b = Bench.formatted().type(3, "D0", "D7").writes(3);
        b.type(0, "1E", "S0", "D0").writes(13).type(3, "D0", "D1").writes(13).files(0);
    }

    private static void listed() {
        Bench.formatted("F").numbersOut();
        Bench b = Bench.formatted("1E", "2W5,0,0");
        for (int n = 0; n < 8; n++) {
            b.type(0, "S" + n);
        }
        b.type(0, "F").numbersOut(0, 9, 1, 9, 2, 9, 3, 9, 4, 9, 5, 9, 6, 9, 7, 9).type(0, "C", "D5", "1G2").step(6, 2);
        b.type(0, "D0", "D7", "F").numbersOut(1, 9, 2, 9, 3, 9, 4, 9, 5, 16, 6, 9);
        Bench full = Bench.formatted("1E", "S0", "2P5", "3P6", "4P7", "5G2").step(0, 1).type(0, "1P4");
        full.step(6, 50).step(6, 29).outs(60).type(0, "F").outs(62).out(6, 59).outFails(60).outFails(61);
        Bench.formatted("1E", "S3", "1P4", "2G1").step(6, 50).step(6, 50).step(6, 17).outs(59).type(0, "F").outs(61)
                .out(3, 59).outFails(60);
    }

    private static void newProgram() {
        new Bench().type(0, "N").lineCount(0).nextLine(0);
        Bench b = new Bench().lines(10).type(0, "1G9").step(6, 1).nextLine(9).type(0, "N").lineCount(0).nextLine(0);
        b.type(0, "2E").nextLine(2).type(0, "1A=3", "2P4").step(6, 2).type(0, "N").variable('A', 3).numbersOut(4);
    }

    private static void cleared() {
        new Bench().type(0, "C").outs(0).nextLine(0);
        Bench b = new Bench().type(0, "1A=1", "2H=2", "3P3", "4G3").step(6, 3).nextLine(4).type(0, "C").nextLine(1);
        b.variable('A', 0).variable('H', 0).numbersOut().lineCount(4).step(6, 3).numbersOut(3).variable('A', 1);
        Bench many = new Bench().type(0, "1P7", "2G1").step(6, 50).step(6, 50).step(6, 50).outs(75).type(0, "C")
                .outs(0);
        many.outFails(0).step(6, 1).numbersOut(7);
    }

    private static void eightAheadOfAll() {
        Bench b = new Bench().type(8, "S0", "L0", "D0", "F", "S7", "L7", "D7").numbersOut()
                .type(2, "S8", "L8", "D8", "F0");
        b.type(0, "1E").type(8, "S0").type(0, "1W0,0,1").step(8, 1).type(0, "1W0,16,1").step(8, 1);
        b.type(0, "1R0,0,A").step(8, 1).type(0, "1R0,16,A").step(8, 1).writes(0).nextLine(1);
        b.type(0, "N", "C").format(0).type(9, "S0").type(3, "L0", "D0").type(0, "F", "1R0,16,A").step(4, 1);
    }
}
