/** Promises 1, 4, 5 and 7 to 11: each sentence that names a boundary has its own test. */
public final class CallEdgesTest {
    public static void main(String[] args) {
        Check.sentence("An empty disk and workspace", CallEdgesTest::emptyAtFirst);
        Check.sentence("not dead, nothing armed", CallEdgesTest::notDeadAtFirst);
        Check.sentence("A character is typed. 0, or what is said of typed texts.", CallEdgesTest::anyCharacter);
        Check.sentence("n below 1 is taken as 1", CallEdgesTest::fewerStepsThanOne);
        Check.sentence("above 50 as 50", CallEdgesTest::moreStepsThanFifty);
        Check.sentence("0: it ended; 6: n steps are done", CallEdgesTest::endedOrDone);
        Check.sentence("3, 4, 8, 9: a failure", CallEdgesTest::failures);
        Check.sentence("7: dead", CallEdgesTest::deadInAStep);
        Check.sentence("Number i that is out, the first 0.", CallEdgesTest::firstAndLastNumber);
        Check.sentence("IndexOutOfBoundsException: there is none", CallEdgesTest::noneIsOut);
        Check.sentence("or it was not kept", CallEdgesTest::notKept);
        Check.sentence("How many numbers are out.", CallEdgesTest::howManyAreOut);
        Check.sentence("Cell a of the disk.", CallEdgesTest::firstAndLastCell);
        Check.sentence("IndexOutOfBoundsException: a is not 0 .. 511.", CallEdgesTest::noCell);
        Check.sentence("How many files the directory has", CallEdgesTest::noFileToEight);
        Check.sentence("7 when dead; 8 when the disk is not formatted", CallEdgesTest::filesOfTheDead);
        Check.sentence("what 0: lines", CallEdgesTest::aboutLines);
        Check.sentence("1 .. 8: variables A .. H", CallEdgesTest::aboutVariables);
        Check.sentence("9: the number of the next line, 0 without one", CallEdgesTest::aboutTheNextLine);
        Check.sentence("10: characters typed", CallEdgesTest::aboutTyped);
        Check.sentence("11: writes made in all", CallEdgesTest::aboutWrites);
        Check.sentence("All but 11: 7 when dead.", CallEdgesTest::aboutTheDead);
        Check.sentence("NONE for another what.", CallEdgesTest::aboutAnother);
        Check.sentence("An object is used for at most 512 calls after it has been made", CallEdgesTest::theLastCall);
        Check.end("CallEdgesTest");
    }

    private static void emptyAtFirst() {
        Bench b = new Bench();
        for (int what = 0; what <= 11; what++) {
            b.about(what, 0);
        }
        b.numbersOut().step(0, 1).files(8);
        for (int cell : Bench.image(untouched -> { })) {
            Check.same("a cell of the disk", 0, cell);
        }
    }

    private static void notDeadAtFirst() {
        new Bench().files(8).feed(0, 'X').about(10, 1).step(0, 1).format(0).format(0).writes(6);
        new Bench().recover(8);
    }

    private static void anyCharacter() {
        int[] strange = {Integer.MIN_VALUE, -1, 0, 9, 11, 31, 127, 128, 255, 256, 10 + 256, 10 + 65536,
                Integer.MAX_VALUE};
        for (int c : strange) {
            new Bench().feed(0, c).typed(1).feed(2, 10).typed(0).feed(0, '1').feed(0, c).feed(2, 10).lineCount(0)
                    .feed(0, '1').feed(0, 'E').feed(0, c).feed(2, 10).lineCount(0);
        }
        for (char digit = '0'; digit <= '9'; digit++) {
            new Bench().type(0, "1P" + digit).step(6, 1).numbersOut(digit - '0');
        }
        new Bench().feed(0, '1' + 256).feed(0, 'E').feed(2, 10).feed(0, '1').feed(0, 'E' + 256).feed(2, 10)
                .lineCount(0);
    }

    private static Bench counting() {
        return new Bench().type(0, "1A=A+1", "2G1");
    }

    private static void fewerStepsThanOne() {
        counting().step(6, 1).variable('A', 1).nextLine(2);
        counting().step(6, 0).variable('A', 1).nextLine(2);
        counting().step(6, -1).variable('A', 1).nextLine(2);
        counting().step(6, Integer.MIN_VALUE).variable('A', 1).nextLine(2);
        new Bench().step(0, 0).step(0, -1);
    }

    private static void moreStepsThanFifty() {
        counting().step(6, 49).variable('A', 25).nextLine(2);
        counting().step(6, 50).variable('A', 25).nextLine(1);
        counting().step(6, 51).variable('A', 25).nextLine(1);
        counting().step(6, 1000).variable('A', 25).nextLine(1);
        counting().step(6, Integer.MAX_VALUE).variable('A', 25).nextLine(1);
    }

    private static void endedOrDone() {
        new Bench().type(0, "1P1", "2P2", "3E").step(6, 2).nextLine(3).step(0, 1).nextLine(1).step(0, 3).step(0, 4)
                .numbersOut(1, 2, 1, 2, 1, 2);
        new Bench().type(0, "1P1", "2P2").step(6, 2).step(0, 1).step(0, 3).numbersOut(1, 2, 1, 2);
        new Bench().type(0, "1E").step(0, 1);
        new Bench().type(0, "1G1").step(6, 1).step(6, 50);
    }

    /** 9 cannot come of a step: the fullest disk has room for a record file. */
    private static void failures() {
        new Bench().type(0, "1W0,0,0").step(8, 1).step(8, 50);
        Bench.formatted("1R0,0,A").step(3, 1).step(3, 50);
        Bench.formatted("1W0,16,0").step(4, 1).step(4, 50);
        Bench.formatted("1P1", "2R0,16,A").step(6, 1).step(4, 1);
        Bench.formatted("1P1", "2R0,16,A").step(4, 2);
    }

    private static void deadInAStep() {
        Bench.formatted("1P1", "2W0,0,1").arm(5).step(7, 2).step(7, 1).numbersOut(1).writes(8).recover(0).step(0, 1);
        Bench.formatted("1P1", "2W0,0,1").arm(6).step(6, 2).writes(9).step(0, 1);
        Bench.formatted("1W0,0,1", "2W0,1,1").arm(6).step(7, 2).writes(9).recover(0).cells(144, 1, 0);
    }

    /** The numbers 1, 2, 3, ..: so many of them. */
    private static Bench printed(int count) {
        Bench b = new Bench().type(0, "1A=A+1", "2PA", "3G1");
        for (int i = 0; i < count; i++) {
            b.step(6, 3);
        }
        return b;
    }

    private static void firstAndLastNumber() {
        printed(1).out(1, 0);
        printed(5).out(1, 0).out(3, 2).out(5, 4);
        printed(60).out(1, 0).out(60, 59);
    }

    private static void noneIsOut() {
        new Bench().outFails(0).outFails(-1).outFails(1).outFails(Integer.MIN_VALUE).outFails(Integer.MAX_VALUE);
        printed(5).outFails(5).outFails(-1).outFails(59).outFails(60).outFails(Integer.MAX_VALUE);
        printed(5).type(0, "C").outFails(0).outFails(4);
    }

    private static void notKept() {
        printed(60).outFails(60);
        printed(61).out(60, 59).outFails(60).outFails(61);
        printed(70).out(60, 59).outFails(60).outFails(69).outFails(70);
    }

    private static void howManyAreOut() {
        new Bench().outs(0);
        printed(1).outs(1);
        printed(59).outs(59);
        printed(60).outs(60);
        printed(61).outs(61);
        printed(100).outs(100).type(0, "C").outs(0);
    }

    private static void firstAndLastCell() {
        new Bench().cells(0, 0).cells(511, 0).format(0).cells(0, 7077, 0).cells(511, 0);
        Bench.formatted("1E", "S0").cells(15, 0, 5, 9, 0).cells(143, 0, 1, 17);
    }

    private static void noCell() {
        Bench b = new Bench().diskFails(-1).diskFails(512).diskFails(Integer.MIN_VALUE).diskFails(Integer.MAX_VALUE);
        b.format(0).diskFails(-1).diskFails(512).arm(0).format(7).diskFails(-1).diskFails(512).cells(511, 0);
    }

    private static void noFileToEight() {
        Bench b = Bench.formatted("1E").files(0);
        for (int n = 0; n < 8; n++) {
            b.type(0, "S" + n).files(n + 1);
        }
        b.type(0, "S0", "S7").files(8);
        for (int n = 0; n < 8; n++) {
            b.type(0, "D" + n).files(7 - n);
        }
        b.type(0, "1W7,0,0").step(6, 1).files(1).format(0).files(0);
    }

    private static void filesOfTheDead() {
        new Bench().files(8).arm(2).format(7).files(7).recover(8).files(8).format(0).files(0).arm(0).format(7).files(7)
                .recover(0).files(0);
    }

    private static void aboutLines() {
        Bench b = new Bench().lineCount(0);
        for (int number = 1; number <= 10; number++) {
            b.type(0, number + "E").lineCount(number);
        }
        b.type(9, "11E").lineCount(10).type(0, "10P1").lineCount(10).type(0, "10").lineCount(9).type(0, "N")
                .lineCount(0);
    }

    private static void aboutVariables() {
        for (int v = 0; v < 8; v++) {
            Bench b = new Bench().type(0, "1" + (char) ('A' + v) + "=0-" + (v + 3)).step(6, 1);
            for (int what = 1; what <= 8; what++) {
                b.about(what, what == v + 1 ? -(v + 3) : 0);
            }
        }
    }

    private static void aboutTheNextLine() {
        new Bench().nextLine(0).type(0, "99P1").nextLine(99).step(6, 1).nextLine(0).step(0, 1).nextLine(99)
                .type(0, "99")
                .nextLine(0);
        new Bench().type(0, "1P1").nextLine(1).step(6, 1).nextLine(0).type(0, "2E").nextLine(2);
    }

    private static void aboutTyped() {
        Bench b = new Bench().typed(0).feed(0, 10).typed(0);
        for (int i = 1; i <= 20; i++) {
            b.feed(0, 'A').typed(Math.min(i, 15));
        }
        b.feed(2, 10).typed(0);
    }

    private static void aboutWrites() {
        new Bench().writes(0).format(0).writes(3).type(0, "1E", "S0").writes(9).type(0, "D0").writes(13).type(3, "D0")
                .writes(13).recover(0).writes(13).arm(0).format(7).writes(13).recover(0).writes(13).format(0)
                        .writes(16);
        new Bench().arm(1).format(7).writes(1);
    }

    private static void aboutTheDead() {
        Bench b = Bench.formatted("1A=2").step(6, 1).arm(0).format(7);
        for (int what = 0; what <= 10; what++) {
            b.about(what, 7);
        }
        b.about(11, 3).recover(0).about(11, 3).about(0, 0);
    }

    private static void aboutAnother() {
        new Bench().about(-1, LineDisk.NONE).about(12, LineDisk.NONE).about(Integer.MIN_VALUE, -1)
                .about(Integer.MAX_VALUE, -1).about(0, 0).about(11, 0);
        Bench.formatted("1A=5").step(6, 1).about(-1, -1).about(12, -1).about(13, -1).about(256, -1);
    }

    private static void theLastCall() {
        Bench formats = new Bench();
        for (int i = 0; i < 511; i++) {
            formats.format(0);
        }
        formats.writes(3 * 511);
        Bench steps = new Bench().type(0, "1P1", "2G1");
        for (int i = 0; i < 503; i++) {
            steps.step(6, 50);
        }
        steps.outs(25 * 503);
    }
}
