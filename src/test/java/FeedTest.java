/** Promise 4: lines, statements, and the commands that need no disk. */
public final class FeedTest {
    private static final String[] STATEMENTS = {
        "A=0", "H=99999", "E=4", "G=5", "E=G", "P1", "PA", "P(A)", "P((((A))))", "P(((((A)))))", "P1+2-3*4",
        "P(1+2)*(3)", "P00000", "IA<BG1", "IA=BG99", "IA>BG09", "I1=1G7", "IG=GG5", "IA+1<B*2G10", "I(A)=(B)G1",
        "G1", "G99", "G01", "E", "W0,0,0", "W7,A,B", "W3,(A),1+2", "R0,0,A", "R7,A+1,H", "R1,1*2,E", "A=1+2+3+4+5",
    };
    private static final String[] NO_STATEMENTS = {
        "A", "A=", "=1", "=", "=A=1", "=D=7", "I=1", "J=1", "a=1", "A=1=2", "A==1", "A= 1", " A=1", "A=1 ", "AB=1", "1=1",
        "P", "P-1", "P+1", "P1+", "P1*", "P1**2", "P1+-2", "P()", "P(1", "P1)", "P(1))", "P((1)", "P123456", "PI",
        "PAB", "P1A", "PA1", "P(A)B", "P1/2", "P1,2", "p1", "P((((((((((", "P))",
        "I1G5", "I1<G5", "I<1G5", "I1<2", "I1<2G", "I1<2G0", "I1<2G00", "I1<2G100", "I1!2G5", "I1<=2G5", "I1<2H5",
        "I1<2G5 ", "IA<G5", "IAAG5", "I1GG5", "I1(2)G5", "I1<2GA",
        "G", "G0", "G00", "G100", "G5+", "GA", "E1", "EE", "E ",
        "W", "W0", "W0,", "W0,1", "W0,1,", "W0,1,2,", "W8,1,2", "W9,1,2", "WA,1,2", "W00,1,2", "W,1,2", "W0;1,2",
        "W0,,2", "W-1,1,2", "R", "R0,1", "R0,1,", "R0,1,1", "R8,1,A", "R0,1,I", "R0,1,AA", "R0,1,A+1", "R0,,A",
        "S0", "L0", "D0", "F", "N", "C", "X", "*", "0", "5",
    };

    public static void main(String[] args) {
        statements();
        lineNumbers();
        linesGoAndAreReplaced();
        lengths();
        tenLines();
        commands();
        strangeCharacters();
        commandsOfTheWorkspace();
        nextStaysWhenALineIsTyped();
        deadAnswersSeven();
        Check.end("FeedTest");
    }

    private static void statements() {
        for (String text : STATEMENTS) {
            LineDisk x = new LineDisk();
            Check.types(x, 0, "1" + text);
            Check.same("lines with " + text, 1, x.about(0));
            Check.types(x, 2, text);
        }
        for (String text : NO_STATEMENTS) {
            LineDisk x = new LineDisk();
            Check.types(x, 2, "10" + text);
            Check.same("lines with " + text, 0, x.about(0));
        }
    }

    private static void lineNumbers() {
        LineDisk x = new LineDisk();
        Check.types(x, 2, "0");
        Check.types(x, 2, "00");
        Check.types(x, 2, "0E");
        Check.types(x, 2, "00E");
        Check.types(x, 2, "100E");
        Check.types(x, 2, "100");
        Check.same("lines", 0, x.about(0));
        Check.typeAll(x, "99E", "09P9", "1P1", "10P10");
        Check.same("lines", 4, x.about(0));
        Check.same("step(50)", 0, x.step(50));
        Check.numbersOut(x, 1, 9, 10);
        Check.typeAll(x, "9", "99", "5");
        Check.same("lines", 2, x.about(0));
    }

    private static void linesGoAndAreReplaced() {
        LineDisk x = new LineDisk();
        Check.typeAll(x, "3P3", "1P1", "2P2", "2P22", "1", "4P(A+4)*1", "3P3", "4P4");
        Check.same("lines", 3, x.about(0));
        Check.same("step(50)", 0, x.step(50));
        Check.numbersOut(x, 22, 3, 4);
        Check.types(x, 2, "2P");
        Check.same("a line that is refused changes nothing", 3, x.about(0));
        Check.same("step(1)", 6, x.step(1));
        Check.same("out(3)", 22, x.out(3));
    }

    private static void lengths() {
        LineDisk x = new LineDisk();
        Check.types(x, 0, "1P1+2+3+4+5+6");
        Check.types(x, 2, "1P1+2+3+4+5+66");
        Check.types(x, 0, "10P1+2+3+4+5+6");
        Check.types(x, 2, "10P1+2+3+4+5+66");
        Check.types(x, 2, "10P1+2+3+4+5+6+7");
        for (int i = 0; i < 20; i++) {
            Check.same("typed", Math.min(i, 15), x.about(10));
            Check.same("feed('7')", 0, x.feed('7'));
        }
        Check.same("typed", 15, x.about(10));
        Check.same("feed(10)", 2, x.feed(10));
        Check.same("typed", 0, x.about(10));
        Check.same("feed(10) of nothing", 0, x.feed(10));
        Check.same("lines", 2, x.about(0));
    }

    private static void tenLines() {
        LineDisk x = new LineDisk();
        for (int number = 10; number <= 55; number += 5) {
            Check.types(x, 0, number + "E");
        }
        Check.same("lines", 10, x.about(0));
        Check.types(x, 9, "1E");
        Check.types(x, 9, "12P1");
        Check.types(x, 9, "99E");
        Check.types(x, 2, "99X");
        Check.types(x, 0, "10P5");
        Check.types(x, 0, "55P6");
        Check.types(x, 0, "1");
        Check.same("lines", 10, x.about(0));
        Check.types(x, 0, "30");
        Check.types(x, 0, "1P7");
        Check.types(x, 9, "30E");
        Check.same("lines", 10, x.about(0));
        Check.same("the next line", 1, x.about(9));
    }

    private static void commands() {
        LineDisk x = Check.formatted("1E");
        String[] none = {"S", "S8", "S9", "SA", "S00", "S 0", "L", "L8", "LL", "L01", "D", "D8", "D0D", "F0", "FF",
            "N0", "N ", "C1", "CC", "s0", "f", "n", "c", "A=1", "P1", "E", "G1", "X", " ", "-1", "W0,1,2", "+", "A0", "P0"};
        for (String text : none) {
            Check.types(x, 2, text);
            Check.same("lines", 1, x.about(0));
        }
        Check.same("files()", 0, x.files());
        LineDisk y = new LineDisk();
        Check.types(y, 2, "S8");
        Check.types(y, 8, "S7");
        Check.types(y, 8, "L0");
        Check.types(y, 8, "D0");
        Check.types(y, 8, "F");
        Check.types(y, 0, "N");
        Check.types(y, 0, "C");
    }

    private static void strangeCharacters() {
        int[] strange = {-1, 0, 9, 13, 32, 127, 255, 256, 'N' + 256, 'N' + 65536, Integer.MIN_VALUE, Integer.MAX_VALUE};
        for (int c : strange) {
            LineDisk x = new LineDisk();
            Check.types(x, 0, "1E");
            Check.same("feed(" + c + ")", 0, x.feed(c));
            Check.same("typed", 1, x.about(10));
            Check.same("feed(10) behind " + c, 2, x.feed(10));
            x.feed('1');
            x.feed('E');
            Check.same("feed(" + c + ")", 0, x.feed(c));
            Check.same("feed(10) behind " + c, 2, x.feed(10));
            x.feed('1');
            x.feed(c);
            Check.same("feed(10) behind " + c, 2, x.feed(10));
            Check.same("lines", 1, x.about(0));
        }
    }

    private static void commandsOfTheWorkspace() {
        LineDisk x = new LineDisk();
        Check.typeAll(x, "1A=3", "2H=4", "3PA", "4E");
        Check.same("step(3)", 6, x.step(3));
        Check.typeAll(x, "N");
        Check.same("lines", 0, x.about(0));
        Check.same("A", 3, x.about(1));
        Check.numbersOut(x, 3);
        Check.typeAll(x, "2E", "7E");
        Check.same("NEXT is 0", 2, x.about(9));
        Check.typeAll(x, "2P1");
        Check.same("step(1)", 6, x.step(1));
        Check.same("the next line", 7, x.about(9));
        Check.typeAll(x, "C");
        Check.same("lines", 2, x.about(0));
        Check.same("A", 0, x.about(1));
        Check.same("H", 0, x.about(8));
        Check.same("NEXT is 0", 2, x.about(9));
        Check.numbersOut(x);
        Check.fails("out(0)", IndexOutOfBoundsException.class, () -> x.out(0));
    }

    private static void nextStaysWhenALineIsTyped() {
        LineDisk x = new LineDisk();
        Check.typeAll(x, "10A=1", "30E");
        Check.same("step(1)", 6, x.step(1));
        Check.same("the next line", 30, x.about(9));
        Check.typeAll(x, "20A=2");
        Check.same("the next line", 20, x.about(9));
        Check.typeAll(x, "11A=3");
        Check.same("the next line", 11, x.about(9));
        Check.typeAll(x, "10", "11", "20", "30");
        Check.same("the next line", 0, x.about(9));
        Check.typeAll(x, "5E");
        Check.same("the next line", 0, x.about(9));
    }

    private static void deadAnswersSeven() {
        LineDisk x = Check.formatted("1E");
        x.arm(0);
        Check.types(x, 7, "S0");
        Check.same("feed('1')", 7, x.feed('1'));
        Check.same("feed(10)", 7, x.feed(10));
        Check.same("recover()", 0, x.recover());
        Check.same("typed", 0, x.about(10));
    }
}
