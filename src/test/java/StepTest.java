/** Promise 5. */
public final class StepTest {
    public static void main(String[] args) {
        values();
        variables();
        ends();
        numberOfSteps();
        jumps();
        signs();
        recordsAreKept();
        failuresAndTheirOrder();
        recordFileFindsTheLastRoom();
        failureEndsTheStepsOfThisCall();
        valuesOfRecords();
        diesInAStep();
        Check.end("StepTest");
    }

    private static void values() {
        Check.same("P0", 0, Check.valueOf("0"));
        Check.same("P00012", 12, Check.valueOf("00012"));
        Check.same("P99999", 99999, Check.valueOf("99999"));
        Check.same("P2+3*4", 14, Check.valueOf("2+3*4"));
        Check.same("P2*3+4", 10, Check.valueOf("2*3+4"));
        Check.same("P(2+3)*4", 20, Check.valueOf("(2+3)*4"));
        Check.same("P9-3-2", 4, Check.valueOf("9-3-2"));
        Check.same("P9-3+2", 8, Check.valueOf("9-3+2"));
        Check.same("P9-(3+2)", 4, Check.valueOf("9-(3+2)"));
        Check.same("P1-2*3", -5, Check.valueOf("1-2*3"));
        Check.same("P2*2*2*2*2", 32, Check.valueOf("2*2*2*2*2"));
        Check.same("P((((7))))", 7, Check.valueOf("((((7))))"));
        Check.same("P99999*99999", 99999 * 99999, Check.valueOf("99999*99999"));
        Check.same("P2*(3-(4-5))", 8, Check.valueOf("2*(3-(4-5))"));
    }

    private static void variables() {
        LineDisk x = new LineDisk();
        Check.typeAll(x, "1A=1", "2B=A+1", "3C=B+1", "4D=C+1", "5E=D+1", "6F=E+1", "7G=F+1", "8H=G+1");
        Check.same("step(9)", 0, x.step(9));
        for (int v = 1; v <= 8; v++) {
            Check.same("variable " + v, v, x.about(v));
        }
        LineDisk y = new LineDisk();
        Check.typeAll(y, "1A=65536", "2A=A*32767", "3A=A+65535", "4PA", "5A=A+1", "6PA", "7B=0-A",
                "8PB-1", "9A=A*A");
        Check.same("step(9)", 6, y.step(9));
        Check.numbersOut(y, Integer.MAX_VALUE, Integer.MIN_VALUE, Integer.MAX_VALUE);
        Check.same("A", 0, y.about(1));
    }

    private static void ends() {
        LineDisk x = new LineDisk();
        Check.same("step(1) without lines", 0, x.step(1));
        Check.typeAll(x, "10P1", "20E", "30P3");
        Check.same("step(1)", 6, x.step(1));
        Check.same("step(1) at E", 0, x.step(1));
        Check.same("NEXT is 0", 10, x.about(9));
        Check.same("step(2)", 0, x.step(2));
        Check.numbersOut(x, 1, 1);
        Check.typeAll(x, "20");
        Check.same("step(2)", 6, x.step(2));
        Check.same("the next line", 0, x.about(9));
        Check.same("step(1)", 0, x.step(1));
        Check.same("the next line", 10, x.about(9));
        Check.typeAll(x, "99P9");
        Check.same("step(3)", 6, x.step(3));
        Check.same("the next line behind 99", 0, x.about(9));
        Check.same("step(5) does no more when it ended", 0, x.step(5));
        Check.numbersOut(x, 1, 1, 1, 3, 1, 3, 9);
    }

    private static void numberOfSteps() {
        LineDisk x = new LineDisk();
        Check.typeAll(x, "1A=A+1", "2G1");
        int[] asked = {1, 2, 3, 0, -1, Integer.MIN_VALUE, 49, 50, 51, 1000, Integer.MAX_VALUE};
        int[] done = {1, 2, 3, 1, 1, 1, 49, 50, 50, 50, 50};
        int steps = 0;
        for (int i = 0; i < asked.length; i++) {
            Check.same("step(" + asked[i] + ")", 6, x.step(asked[i]));
            steps += done[i];
            Check.same("A", (steps + 1) / 2, x.about(1));
        }
    }

    private static void jumps() {
        LineDisk x = new LineDisk();
        Check.typeAll(x, "10G30", "20P2", "30P3", "40G15");
        Check.same("step(5)", 6, x.step(5));
        Check.numbersOut(x, 3, 2, 3);
        Check.typeAll(x, "40G99");
        Check.same("step(1)", 6, x.step(1));
        Check.same("the next line", 0, x.about(9));
        Check.same("step(1)", 0, x.step(1));
        Check.typeAll(x, "10G10");
        Check.same("step(50)", 6, x.step(50));
        Check.same("the next line", 10, x.about(9));
        Check.typeAll(x, "10G09", "9E");
        Check.same("step(1)", 6, x.step(1));
        Check.same("the next line", 9, x.about(9));
    }

    private static void signs() {
        String[] values = {"0-1", "0", "1"};
        for (int a = 0; a < 3; a++) {
            for (int b = 0; b < 3; b++) {
                sign("I(" + values[a] + ")<", values[b], a < b);
                sign("I(" + values[a] + ")=", values[b], a == b);
                sign("I(" + values[a] + ")>", values[b], a > b);
            }
        }
    }

    private static void sign(String left, String right, boolean holds) {
        LineDisk x = new LineDisk();
        Check.typeAll(x, "1" + left + right + "G8", "2E", "8E");
        Check.same("step(1)", 6, x.step(1));
        Check.same(left + right, holds ? 8 : 2, x.about(9));
    }

    private static void recordsAreKept() {
        LineDisk x = Check.formatted("1W2,0,11", "2W2,15,22", "3R2,15,A", "4R2,0,B", "5R2,7,C", "6W2,0,0-5");
        Check.same("step(1)", 6, x.step(1));
        Check.same("writes", 3 + 6, x.about(11));
        Check.same("step(5)", 6, x.step(5));
        Check.same("writes", 3 + 6 + 4 + 4, x.about(11));
        Check.same("A", 22, x.about(1));
        Check.same("B", 11, x.about(2));
        Check.cells(x, 20, 16, 9);
        Check.cells(x, 144, -5, 0, 0, 0, 0, 0, 0, 0, 0, 0, 0, 0, 0, 0, 0, 22, 0);
        LineDisk y = Check.formatted("1E", "S0", "D0", "1W0,1,3");
        Check.same("step(1)", 6, y.step(1));
        Check.cells(y, 144, 0, 3, 0, 0);
    }

    private static void failuresAndTheirOrder() {
        LineDisk bare = new LineDisk();
        failing(bare, "W0,0,1", 8);
        failing(bare, "W0,16,1", 8);
        failing(bare, "R0,0,A", 8);
        failing(bare, "R0,16,A", 8);
        LineDisk x = Check.formatted("1E", "S1", "1W2,3,4");
        Check.same("step(1)", 6, x.step(1));
        Check.same("step(1)", 0, x.step(1));
        int writes = x.about(11);
        failing(x, "W0,16,1", 4);
        failing(x, "W0,0-1,1", 4);
        failing(x, "W1,0,1", 4);
        failing(x, "W1,16,1", 4);
        failing(x, "W2,16,1", 4);
        failing(x, "R0,16,A", 4);
        failing(x, "R0,0-1,A", 4);
        failing(x, "R0,15,A", 3);
        failing(x, "R1,0,A", 4);
        failing(x, "R1,16,A", 4);
        failing(x, "R2,16,A", 4);
        Check.same("writes", writes, x.about(11));
        Check.same("A", 0, x.about(1));
        Check.typeAll(x, "1R2,3,A");
        Check.same("step(1)", 6, x.step(1));
        Check.same("A", 4, x.about(1));
    }

    private static void failing(LineDisk x, String statement, int answer) {
        Check.types(x, 0, "1" + statement);
        Check.same("step(1) of " + statement, answer, x.step(1));
        Check.same("NEXT stays at " + statement, 1, x.about(9));
    }

    /** The other seven files take 21 of 23 blocks at the most, so W always has room: 9 never comes of it. */
    private static void recordFileFindsTheLastRoom() {
        LineDisk x = Check.formatted();
        for (int number = 1; number <= 10; number++) {
            Check.types(x, 0, number + "E");
        }
        for (int n = 0; n < 7; n++) {
            Check.types(x, 0, "S" + n);
        }
        Check.typeAll(x, "N", "1W7,5,6", "2W6,0,1");
        Check.same("step(2)", 4, x.step(2));
        Check.cells(x, 30, 16, 30);
        Check.same("the record", 6, x.disk(485));
        Check.typeAll(x, "D6", "1W6,0,1");
        Check.same("step(1)", 6, x.step(1));
        Check.cells(x, 28, 16, 27);
    }

    private static void failureEndsTheStepsOfThisCall() {
        LineDisk x = Check.formatted("10P1", "20R0,0,A", "30P3");
        Check.same("step(50)", 3, x.step(50));
        Check.numbersOut(x, 1);
        Check.same("NEXT stays", 20, x.about(9));
        Check.same("step(50)", 3, x.step(50));
        Check.typeAll(x, "20W0,0,6");
        Check.same("step(2)", 6, x.step(2));
        Check.numbersOut(x, 1, 3);
    }

    private static void valuesOfRecords() {
        LineDisk x = Check.formatted("1A=3", "2W0,A,A*A", "3A=A+1", "4IA<16G2", "5R0,15,H", "6R0,A-6,A", "7R0,3,A");
        Check.same("step(50)", 0, x.step(50));
        Check.same("H", 225, x.about(8));
        Check.same("A", 9, x.about(1));
        Check.cells(x, 144, 0, 0, 0, 9, 16, 25, 36, 49, 64, 81, 100, 121, 144, 169, 196, 225);
    }

    private static void diesInAStep() {
        LineDisk x = Check.formatted("1P4", "2A=5", "3W0,0,1", "4P5");
        x.arm(5);
        Check.same("step(4)", 7, x.step(4));
        Check.same("step(1) when dead", 7, x.step(1));
        Check.numbersOut(x, 4);
        Check.same("recover()", 0, x.recover());
        Check.same("lines", 0, x.about(0));
        Check.same("A", 0, x.about(1));
        Check.same("step(1)", 0, x.step(1));
        Check.same("the record", 1, x.disk(144));
        Check.typeAll(x, "1P6");
        Check.same("NEXT is 0", 1, x.about(9));
    }
}
