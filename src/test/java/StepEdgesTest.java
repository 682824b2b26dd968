/** What "Terms" says of a step, of values, records and failures: each sentence that names a boundary has its test. */
public final class StepEdgesTest {
    /** Lines that make A the least int and B the greatest. */
    private static final String[] EXTREMES = {"1B=65536", "2A=B*32768", "3B=A-1"};
    private static final int[] OTHER_CELLS = {5, 9, 13, 17, 21, 25, 29, 33, 37, 41};

    public static void main(String[] args) {
        Check.sentence("VARIABLES A .. H (ints, which wrap)", StepEdgesTest::variablesWrap);
        Check.sentence("what was OUT (numbers; the first 60 are kept)", StepEdgesTest::sixtyAreKept);
        Check.sentence("NEXT is 1 more than its number then", StepEdgesTest::oneMore);
        Check.sentence("NEXT is 1 more than its number then, or the number at G", StepEdgesTest::theNumberAtG);
        Check.sentence("Without a next line, and at E, a step ENDS it: NEXT is 0.", StepEdgesTest::ends);
        Check.sentence("I: G if the sign holds.", StepEdgesTest::signs);
        Check.sentence("I: G if the sign holds: of the least and the greatest int", StepEdgesTest::signsOfExtremes);
        Check.sentence("record i of file n becomes v", StepEdgesTest::recordsWritten);
        Check.sentence("V becomes it", StepEdgesTest::recordsRead);
        Check.sentence("values are worked out from left to right", StepEdgesTest::valuesOfARecord);
        Check.sentence("A RECORD FILE has 16 cells (one block)", StepEdgesTest::oneBlock);
        Check.sentence("i is 0 .. 15, else 4", StepEdgesTest::indexOfARecord);
        Check.sentence("when there is no such file, one with 16 times 0 and the record is made",
                StepEdgesTest::newRecordFile);
        Check.sentence("9 if there is no room", StepEdgesTest::fullestDisk);
        Check.sentence("else a transaction of the block", StepEdgesTest::oldRecordFile);
        Check.sentence("(4 if it has not 16 cells)", StepEdgesTest::writeToAProgram);
        Check.sentence("R: 3 if there is no such file", StepEdgesTest::readOfNoFile);
        Check.sentence("R: 3 if there is no such file; 4 if it has not 16 cells.", StepEdgesTest::readOfAProgram);
        Check.sentence("of W and R i is looked at behind 8, then the file, then room", StepEdgesTest::orderOfFailures);
        Check.sentence("ends the steps of this call", StepEdgesTest::failureEndsTheCall);
        Check.sentence("NEXT stays.", StepEdgesTest::nextStays);
        Check.end("StepEdgesTest");
    }

    private static Bench extremes() {
        return Bench.formatted(EXTREMES).step(6, 3).variable('A', Integer.MIN_VALUE).variable('B', Integer.MAX_VALUE);
    }

    private static void variablesWrap() {
        extremes().type(0, "4C=B+1", "5D=A-1", "6E=0-A", "7F=A+A", "8G=B*B", "9H=B*2").step(6, 6)
                .variable('C', Integer.MIN_VALUE).variable('D', Integer.MAX_VALUE).variable('E', Integer.MIN_VALUE)
                .variable('F', 0).variable('G', 1).variable('H', -2);
        new Bench().type(0, "1P99999*99999").step(6, 1).numbersOut(1409865409);
    }

    private static void sixtyAreKept() {
        Bench b = new Bench().type(0, "1A=A+1", "2PA", "3G1");
        for (int i = 0; i < 59; i++) {
            b.step(6, 3);
        }
        b.outs(59).out(59, 58).outFails(59).step(6, 3).outs(60).out(60, 59).outFails(60);
        b.step(6, 3).outs(61).out(60, 59).outFails(60).outFails(61).out(1, 0);
    }

    private static void oneMore() {
        new Bench().type(0, "1P1", "2P2").step(6, 1).nextLine(2).type(0, "1P3").nextLine(2).step(6, 1).numbersOut(1, 2);
        Bench b = new Bench().type(0, "10P1", "20P2").step(6, 1).nextLine(20).type(0, "11P3").nextLine(11).step(6, 1);
        b.type(0, "11P4").nextLine(20);
        new Bench().type(0, "99P9").step(6, 1).nextLine(0).step(0, 1).nextLine(99);
        new Bench().type(0, "99P9", "1P1").step(0, 3).nextLine(1).numbersOut(1, 9);
        new Bench().type(0, "5I1>2G1", "6E").step(6, 1).nextLine(6);
    }

    private static void theNumberAtG() {
        new Bench().type(0, "50G50").step(6, 50).nextLine(50);
        new Bench().type(0, "50G1").step(6, 1).nextLine(50).type(0, "1E").nextLine(1);
        new Bench().type(0, "50G51").step(6, 1).nextLine(0).step(0, 1).nextLine(50);
        new Bench().type(0, "50G99", "99P1").step(6, 2).numbersOut(1).nextLine(0);
        new Bench().type(0, "1G98", "99E").step(6, 1).nextLine(99);
        new Bench().type(0, "1I1=1G98", "99E").step(6, 1).nextLine(99);
    }

    private static void ends() {
        new Bench().step(0, 1).step(0, 50).nextLine(0);
        new Bench().type(0, "1E").step(0, 1).nextLine(1).step(0, 50).nextLine(1);
        new Bench().type(0, "1P1", "2E", "3P3").step(6, 1).nextLine(2).step(0, 1).nextLine(1).step(0, 50)
                .numbersOut(1, 1);
        new Bench().type(0, "1P1").step(6, 1).nextLine(0).step(0, 1).nextLine(1).step(0, 2).numbersOut(1, 1);
    }

    private static void sign(String condition, boolean holds) {
        extremes().type(0, "4I" + condition + "G9", "5E", "9E").step(6, 1).nextLine(holds ? 9 : 5);
    }

    private static void signs() {
        sign("1<2", true);
        sign("2<2", false);
        sign("3<2", false);
        sign("1=2", false);
        sign("2=2", true);
        sign("3=2", false);
        sign("1>2", false);
        sign("2>2", false);
        sign("3>2", true);
    }

    private static void signsOfExtremes() {
        sign("A<B", true);
        sign("B<A", false);
        sign("A>B", false);
        sign("B>A", true);
        sign("A=B", false);
        sign("A<0", true);
        sign("B>0-1", true);
        sign("B+1=A", true);
    }

    private static void recordsWritten() {
        Bench.formatted("1W0,0,1", "2W7,15,2").step(6, 2).file(0, 16, 9).file(7, 16, 10).cells(144, 1)
                .cells(160 + 15, 2);
        extremes().type(0, "4W3,0,A", "5W3,15,B").step(6, 2).cells(144, Integer.MIN_VALUE, 0)
                .cells(158, 0, Integer.MAX_VALUE);
    }

    private static void recordsRead() {
        extremes().type(0, "4W3,0,A", "5W3,15,B", "6R3,0,C", "7R3,15,H", "8R3,7,A").step(6, 5)
                .variable('C', Integer.MIN_VALUE).variable('H', Integer.MAX_VALUE).variable('A', 0);
    }

    private static void valuesOfARecord() {
        Bench b = Bench.formatted("1A=3", "2W0,A,A*2", "3R0,A,A", "4W0,A-1,A+1").step(6, 4).variable('A', 6);
        b.cells(144, 0, 0, 0, 6, 0, 7, 0);
    }

    private static void oneBlock() {
        Bench.formatted("1W0,15,5").step(6, 1).file(0, 16, 9).cells(159, 5, 0).type(0, "S1").file(1, 5, 10);
    }

    private static void indexOfARecord() {
        String[] wrong = {"16", "0-1", "99999", "A", "B", "16*16", "A+A-1"};
        Bench b = extremes().type(0, "4W0,0,1", "5W0,15,2", "6R0,0,C", "7R0,15,D").step(6, 4).variable('C', 1);
        b.variable('D', 2).writes(13);
        for (String i : wrong) {
            b.type(0, "8W0," + i + ",9").step(4, 1).type(0, "8R0," + i + ",C").step(4, 1);
        }
        b.variable('C', 1).writes(13).cells(143, 0, 1, 0).cells(158, 0, 2, 0);
    }

    private static void newRecordFile() {
        Bench b = Bench.formatted("1P1+2+3+4+5+6", "2P1+2+3+4+5+6", "3E", "S0", "D0").cells(144, 3, 28);
        b.type(0, "1W4,15,7").step(6, 1).file(4, 16, 9).cells(144, 0, 0, 0, 0, 0, 0, 0, 0, 0, 0, 0, 0, 0, 0, 0, 7);
        b.cells(48, 0, 0, 0, 0, 0, 0, 0, 0, 16, 9).cells(64, 0).cells(79, 7).writes(3 + 6 + 4 + 6).noFile(0);
    }

    /** Seven files of three blocks are all that others can take: W finds the room that is left, and 9 never comes. */
    private static void fullestDisk() {
        Bench b = Bench.formatted().lines(10);
        for (int n = 1; n < 8; n++) {
            b.type(0, "S" + n);
        }
        b.type(9, "S0").type(0, "1W0,0,3").step(6, 1).file(0, 16, 30).cells(480, 3).files(8);
    }

    private static void oldRecordFile() {
        Bench b = Bench.formatted("1W2,0,1", "2W2,15,2", "3W2,0,3").step(6, 1).writes(9).step(6, 1).writes(13);
        b.cells(144, 1).cells(159, 2).step(6, 1).writes(17).cells(144, 3, 0).cells(158, 0, 2).file(2, 16, 9).files(1);
        Bench.formatted("1W2,0,1", "2W2,15,2").step(6, 1).arm(2).step(7, 1).cells(32, 1, 9, 0).cells(48, 1)
                .cells(63, 2);
    }

    private static void writeToAProgram() {
        for (int cells : OTHER_CELLS) {
            Bench b = Bench.formatted().lines(cells / 4).type(0, "S0", "N", "1W0,0,1").file(0, cells, 9).writes(
                    3 + 4 + (cells + 15) / 16 * 2);
            b.step(4, 1).cells(144, cells / 4).writes(3 + 4 + (cells + 15) / 16 * 2);
        }
    }

    private static void readOfNoFile() {
        Bench b = Bench.formatted("1A=5", "2R0,0,A").step(3, 2).variable('A', 5).type(0, "2R7,15,A").step(3, 1);
        b.type(0, "1W7,15,8", "3E").step(3, 1).type(0, "C").step(6, 2).variable('A', 8).type(0, "D7")
                .type(0, "C", "1A=1");
        b.step(3, 2).variable('A', 1).files(0);
    }

    private static void readOfAProgram() {
        for (int cells : OTHER_CELLS) {
            Bench b = Bench.formatted().lines(cells / 4).type(0, "S0", "N", "1A=5", "2R0,0,A").file(0, cells, 9);
            b.step(4, 2).variable('A', 5);
        }
    }

    private static void orderOfFailures() {
        new Bench().type(0, "1W0,16,1").step(8, 1).type(0, "1R0,16,A").step(8, 1);
        Bench.formatted("1R0,16,A").step(4, 1).type(0, "1R0,15,A").step(3, 1);
        Bench.formatted("1W0,16,1").step(4, 1).files(0).type(0, "S0").step(4, 1).type(0, "1W0,15,1").step(4, 1);
        Bench full = Bench.formatted().lines(10);
        for (int n = 0; n < 7; n++) {
            full.type(0, "S" + n);
        }
        full.type(0, "1W7,16,1").step(4, 1).type(0, "1W6,0,1").step(4, 1).files(7);
    }

    private static void failureEndsTheCall() {
        Bench b = Bench.formatted("1P1", "2R0,0,A", "3P3").step(3, 50).numbersOut(1).step(3, 50).numbersOut(1);
        b.type(0, "2W0,16,1").step(4, 50).numbersOut(1).type(0, "2W0,0,1").step(0, 50).numbersOut(1, 3);
        new Bench().type(0, "1P1", "2R0,0,A", "3P3").step(8, 50).numbersOut(1);
        Bench.formatted("1R0,0,A").step(3, 1).type(0, "2P2").step(3, 2).numbersOut();
    }

    /** NEXT is 11 when line 30 fails, so that a line 20 typed then is the next. */
    private static void nextStays() {
        String[] failing = {"30R0,0,A", "30W0,16,1", "30R0,16,A"};
        int[] answers = {3, 4, 4};
        for (int i = 0; i < failing.length; i++) {
            Bench b = Bench.formatted("10P1", failing[i]).step(answers[i], 9).nextLine(30).type(0, "20P2").nextLine(20);
            b.type(0, "11P3").nextLine(11).type(0, "10P4").nextLine(11);
        }
        new Bench().type(0, "10P1", "30W0,0,1").step(8, 9).nextLine(30).type(0, "20P2").nextLine(20);
        new Bench().type(0, "30R0,0,A").step(8, 1).nextLine(30).type(0, "1E").nextLine(1);
    }
}
