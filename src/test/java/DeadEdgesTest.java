/** What "Terms" says of DEAD, promise 2, 3 and 6: each sentence that names a boundary has its own test. */
public final class DeadEdgesTest {
    public static void main(String[] args) {
        Check.sentence("DEAD: the workspace is empty (no lines, variables and NEXT 0, nothing typed",
                DeadEdgesTest::emptyBehindADeath);
        Check.sentence("but what is out stays", DeadEdgesTest::outStays);
        Check.sentence("nothing is armed", DeadEdgesTest::nothingIsArmed);
        Check.sentence("all calls but recover(), arm(), out(), outs() and disk() answer 7",
                DeadEdgesTest::callsOfTheDead);
        Check.sentence("all calls but recover(), arm(), out(), outs() and disk(): these answer as ever",
                DeadEdgesTest::otherCallsOfTheDead);
        Check.sentence("Blocks 0, 1 and 2 are written, in the order 2, 1, 0", DeadEdgesTest::orderOfFormat);
        Check.sentence("2 and 1 with 0, and the HEAD (7077, then 0)", DeadEdgesTest::cellsOfFormat);
        Check.sentence("0; 7 if it dies in it", DeadEdgesTest::diesInFormat);
        Check.sentence("7 if it dies in it or was dead", DeadEdgesTest::wasDead);
        Check.sentence("The workspace stays.", DeadEdgesTest::workspaceStays);
        Check.sentence("The machine is dead no more", DeadEdgesTest::deadNoMore);
        Check.sentence("its workspace is empty (but what is out)", DeadEdgesTest::emptyBehindRecovery);
        Check.sentence("an armed crash is armed no more", DeadEdgesTest::armedNoMore);
        Check.sentence("unless it comes in this call", DeadEdgesTest::crashInRecovery);
        Check.sentence("If the disk is formatted, and cell 0 of the log's head is not 0",
                DeadEdgesTest::nothingToRecover);
        Check.sentence("the log's blocks are written where they belong (in their order), then the log's head with 0",
                DeadEdgesTest::orderOfRecovery);
        Check.sentence("0; 8 when the disk is not formatted; 7 when it dies.", DeadEdgesTest::answersOfRecovery);
        Check.sentence("Armed with w: that many writes are made, then it dies: true.", DeadEdgesTest::armed);
        Check.sentence("IllegalArgumentException: w is not 0 .. 1000.", DeadEdgesTest::armRefuses);
        Check.end("DeadEdgesTest");
    }

    /** Ten lines, all variables, NEXT and a typed text are there when the crash comes. */
    private static Bench busy() {
        Bench b = Bench.formatted("1A=1", "2B=2", "3C=3", "4D=4", "5E=5", "6F=6", "7G=7", "8H=8", "9P9", "10E")
                .step(6, 9);
        return b.nextLine(10).feed(0, '1').feed(0, '2').typed(2);
    }

    private static void isEmpty(Bench b) {
        for (int what = 0; what <= 10; what++) {
            b.about(what, 0);
        }
        b.type(0, "1E").nextLine(1).lineCount(1);
    }

    private static void emptyBehindADeath() {
        isEmpty(busy().arm(0).format(7).recover(0));
        isEmpty(Bench.formatted("1A=1", "2E").step(6, 1).arm(0).type(7, "S0").recover(0));
        isEmpty(Bench.formatted("1A=1", "2W0,0,1").arm(5).step(7, 9).recover(0));
    }

    private static void outStays() {
        busy().arm(0).format(7).numbersOut(9).recover(0).numbersOut(9);
        Bench b = Bench.formatted("1P4", "2G1").step(6, 50).step(6, 50).step(6, 50).outs(75).arm(0).format(7);
        b.outs(75).out(4, 0).out(4, 59).outFails(60).recover(0).outs(75).out(4, 59);
        new Bench().arm(0).format(7).numbersOut();
    }

    private static void nothingIsArmed() {
        Bench.formatted("1E").arm(3).type(7, "S0").recover(0).files(1).format(0);
        new Bench().arm(0).format(7).recover(8).format(0).format(0);
    }

    private static void callsOfTheDead() {
        Bench b = Bench.formatted("1P1", "2E", "S0").arm(0).type(7, "D0").format(7).feed(7, '1').feed(7, 10)
                .feed(7, 'N');
        b.feed(7, -1).step(7, 1).step(7, 0).step(7, 51).files(7);
        for (int what = 0; what <= 10; what++) {
            b.about(what, 7);
        }
        b.recover(0).typed(0).files(1).writes(9);
        new Bench().arm(0).format(7).files(7).step(7, 1).feed(7, 'F').feed(7, 10).about(0, 7);
    }

    private static void otherCallsOfTheDead() {
        Bench b = Bench.formatted("1P6", "2E").step(6, 1).arm(0).type(7, "S0").numbersOut(6).outFails(-1).outs(1);
        b.cells(0, 7077).cells(511, 0).diskFails(512).diskFails(-1).arm(0).arm(1000).armFails(1001).armFails(-1);
        b.writes(3).recover(0).files(0);
    }

    private static void orderOfFormat() {
        new Bench().arm(0).format(7).cells(0, 0).writes(0);
        new Bench().arm(1).format(7).cells(0, 0).writes(1);
        new Bench().arm(2).format(7).cells(0, 0).writes(2);
        new Bench().arm(3).format(0).cells(0, 7077).writes(3);
        Bench.formatted("1E", "S0").arm(0).format(7).file(0, 5, 9);
        Bench.formatted("1E", "S0").arm(1).format(7).file(0, 5, 9).recover(0).files(1);
        Bench.formatted("1E", "S0").arm(2).format(7).noFile(0).recover(0).files(0);
    }

    private static void cellsOfFormat() {
        Bench b = Bench.formatted("1E", "S0", "S7", "1W3,0,1").step(6, 1).format(0);
        b.cells(0, 7077, 0, 0, 0, 0, 0, 0, 0, 0, 0, 0, 0, 0, 0, 0);
        for (int a = 15; a < 48; a++) {
            b.cells(a, 0);
        }
        b.cells(144, 1, 17).cells(176, 1).files(0);
    }

    private static void diesInFormat() {
        for (int w = 0; w < 3; w++) {
            new Bench().arm(w).format(7).files(7);
        }
        new Bench().arm(3).format(0).files(0).format(7).files(7);
    }

    private static void wasDead() {
        new Bench().arm(0).format(7).format(7).writes(0).cells(0, 0).recover(8).format(0);
        Bench.formatted("1E").arm(3).type(7, "S0").format(7).writes(6).cells(32, 2).recover(0).files(1);
    }

    private static void workspaceStays() {
        busy().format(0).lineCount(10).variable('A', 1).variable('H', 8).nextLine(10).typed(2).numbersOut(9)
                .feed(0, 'E')
                .feed(9, 10);
    }

    private static void deadNoMore() {
        new Bench().arm(0).format(7).files(7).recover(8).files(8).feed(0, '1').typed(1).format(0).files(0);
        Bench.formatted("1E", "S0").arm(0).type(7, "D0").recover(0).files(1).type(0, "L0").lineCount(1);
    }

    private static void emptyBehindRecovery() {
        isEmpty(busy().recover(0).numbersOut(9));
        isEmpty(new Bench().type(0, "1A=1", "2P2").step(6, 2).feed(0, '5').recover(8).numbersOut(2));
        isEmpty(new Bench().recover(8));
    }

    private static void armedNoMore() {
        Bench.formatted().arm(0).recover(0).format(0);
        new Bench().arm(0).recover(8).format(0);
        Bench.formatted("1E").arm(3).type(7, "S0").arm(3).recover(0).writes(9).format(0);
        Bench.formatted("1E").arm(3).type(7, "S0").arm(5).recover(0).format(0).format(0);
    }

    private static void crashInRecovery() {
        Bench b = Bench.formatted("1E").arm(3).type(7, "S0");
        b.arm(0).recover(7).files(7).cells(32, 2).noFile(0).cells(144, 0).writes(6);
        b.arm(1).recover(7).files(7).cells(32, 2).file(0, 5, 9).cells(144, 0).writes(7);
        b.arm(2).recover(7).files(7).cells(32, 2).file(0, 5, 9).cells(144, 1).writes(9);
        b.recover(0).files(1).cells(32, 0).writes(12).format(0);
    }

    private static void nothingToRecover() {
        new Bench().recover(8).writes(0).format(0).recover(0).writes(3).recover(0).writes(3);
        Bench.formatted("1E", "S0").recover(0).writes(9).files(1);
        Bench.formatted("1E").arm(2).type(7, "S0").recover(0).writes(5).files(0).cells(48, 5, 9);
        Bench.formatted("1E").arm(3).type(7, "S0").recover(0).writes(9).files(1);
        Bench.formatted("1E").arm(5).type(7, "S0").recover(0).writes(11).files(1).recover(0).writes(11);
    }

    /** The log has the directory and blocks 9, 10 and 11; a crash ahead of each of the five writes. */
    private static void orderOfRecovery() {
        for (int w = 0; w <= 5; w++) {
            Bench b = Bench.formatted().lines(10).arm(5).type(7, "S0").arm(w).recover(w < 5 ? 7 : 0).writes(3 + 5 + w);
            b.cells(16, w > 0 ? 41 : 0, w > 0 ? 9 : 0).cells(144, w > 1 ? 10 : 0).cells(161, w > 2 ? 81 : 0);
            b.cells(177, w > 3 ? 145 : 0).cells(32, w > 4 ? 0 : 4, w > 4 ? 0 : 1, w > 4 ? 0 : 9).cells(48, 41, 9);
        }
    }

    private static void answersOfRecovery() {
        new Bench().recover(8).format(0).recover(0);
        new Bench().arm(2).format(7).recover(8).recover(8);
        Bench.formatted("1E").arm(4).type(7, "S0").arm(0).recover(7).recover(0).recover(0);
    }

    private static void armed() {
        new Bench().arm(0).format(7).writes(0);
        new Bench().arm(1).format(7).writes(1);
        Bench b = new Bench().arm(1000);
        for (int i = 0; i < 333; i++) {
            b.format(0);
        }
        b.writes(999).format(7).writes(1000);
        new Bench().arm(0).arm(3).format(0).arm(5).arm(1).format(7).writes(4);
        new Bench().arm(3).format(0).files(0).format(7);
    }

    private static void armRefuses() {
        Bench b = new Bench().armFails(-1).armFails(1001).armFails(Integer.MIN_VALUE).armFails(Integer.MAX_VALUE)
                .format(0);
        b.arm(4).armFails(-1).armFails(1001).format(0).format(7).writes(7).armFails(-1).armFails(1001);
        new Bench().arm(0).arm(1).arm(999).arm(1000).armFails(1001).format(0);
    }
}
