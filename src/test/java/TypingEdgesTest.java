/** What "Terms" says of lines and typed texts: each sentence that names a boundary has its own test. */
public final class TypingEdgesTest {
    private static final String TWELVE = "P1+2+3+4+5+6";
    private static final String THIRTEEN = "P1+2+3+4+5+66";

    public static void main(String[] args) {
        Check.sentence("at most 10 LINES", TypingEdgesTest::atMostTenLines);
        Check.sentence("with numbers 1 .. 99", TypingEdgesTest::numbersOfLines);
        Check.sentence("each a text of 1 to 12 characters", TypingEdgesTest::lengthsOfTexts);
        Check.sentence("in the order of their numbers", TypingEdgesTest::orderOfLines);
        Check.sentence("NEXT, a number (0 at first)", TypingEdgesTest::nextIsZeroAtFirst);
        Check.sentence("the NEXT LINE is that of the least number not below it", TypingEdgesTest::theNextLine);
        Check.sentence("A TYPED text has at most 15 characters; more are lost.", TypingEdgesTest::moreThanFifteen);
        Check.sentence("The character 10 ends it, and it is empty then", TypingEdgesTest::emptyBehindTen);
        Check.sentence("nothing: 0.", TypingEdgesTest::nothingTyped);
        Check.sentence("One or two digits first, a number 1 .. 99 (else 2)", TypingEdgesTest::oneOrTwoDigits);
        Check.sentence("without a rest the line goes away", TypingEdgesTest::lineGoesAway);
        Check.sentence("(if there is one): 0", TypingEdgesTest::noLineGoesAway);
        Check.sentence("the rest must be a STATEMENT of at most 12 characters, else 2", TypingEdgesTest::theRest);
        Check.sentence("then 9: there are 10 lines, and none of this number", TypingEdgesTest::noneOfThisNumber);
        Check.sentence("there are 10 lines, and none of this number; else 0", TypingEdgesTest::oneOfThisNumber);
        Check.sentence("else 2; then 9", TypingEdgesTest::twoAheadOfNine);
        Check.sentence("Any other first character: it must be a COMMAND, else 2.", TypingEdgesTest::noCommand);
        Check.sentence("(Answers are of the call that got the character 10.)", TypingEdgesTest::onlyTenIsAnswered);
        Check.end("TypingEdgesTest");
    }

    private static void atMostTenLines() {
        Bench b = new Bench().lines(9).lineCount(9).type(0, "10E").lineCount(10).type(9, "11E").lineCount(10);
        b.type(0, "1").lineCount(9).type(0, "11E").lineCount(10).type(9, "1E").nextLine(2);
    }

    private static void numbersOfLines() {
        new Bench().type(2, "0E", "00E", "100E").lineCount(0).type(0, "1E", "99E").lineCount(2);
        new Bench().type(0, "1E").nextLine(1);
        new Bench().type(0, "99P4").nextLine(99).step(6, 1).numbersOut(4);
    }

    private static void lengthsOfTexts() {
        new Bench().type(0, "1E", "10E").lineCount(2).type(0, "1" + TWELVE, "10" + TWELVE).step(6, 2)
                .numbersOut(21, 21);
        new Bench().type(2, "1" + THIRTEEN, "10" + THIRTEEN).lineCount(0);
    }

    private static void orderOfLines() {
        new Bench().type(0, "50P3", "99P4", "1P1", "9P2").step(0, 9).numbersOut(1, 2, 3, 4);
        new Bench().type(0, "9P2", "10P3", "2P1").step(0, 9).numbersOut(1, 2, 3);
    }

    private static void nextIsZeroAtFirst() {
        new Bench().nextLine(0).type(0, "99E").nextLine(99).type(0, "2E").nextLine(2).type(0, "1E").nextLine(1);
    }

    /** NEXT is 20 behind the G: a line of this number is next, one below it is not. */
    private static void theNextLine() {
        Bench b = new Bench().type(0, "5G20", "99E").step(6, 1).nextLine(99).type(0, "21E").nextLine(21);
        b.type(0, "20E").nextLine(20).type(0, "19E").nextLine(20).type(0, "20", "21", "99").nextLine(0);
    }

    private static void moreThanFifteen() {
        Bench b = new Bench();
        for (int i = 1; i <= 15; i++) {
            b.feed(0, '1').typed(i);
        }
        b.feed(0, '1').typed(15).feed(0, 'N').typed(15).feed(2, 10).typed(0);
        new Bench().type(2, "1" + TWELVE + "+78", "10" + TWELVE + "+7", "10" + TWELVE + "+").lineCount(0);
        new Bench().type(0, "1E").type(2, "               N").lineCount(1);
    }

    private static void emptyBehindTen() {
        Bench b = new Bench().feed(0, '1').feed(0, 'E').typed(2).feed(0, 10).typed(0);
        b.feed(0, 'X').typed(1).feed(2, 10).typed(0).feed(0, 'S').feed(0, '0').typed(2).feed(8, 10).typed(0);
        b.lines(10).type(9, "11E").typed(0).feed(0, 'N').feed(0, 10).lineCount(0);
    }

    private static void nothingTyped() {
        new Bench().feed(0, 10).feed(0, 10).typed(0).lineCount(0);
        new Bench().type(0, "1A=4", "2P1").step(6, 2).feed(0, 10).lineCount(2).variable('A', 4).numbersOut(1)
                .nextLine(0);
    }

    private static void oneOrTwoDigits() {
        new Bench().type(2, "0", "00", "0E", "00E", "000", "001E", "100").lineCount(0);
        new Bench().type(0, "1P1", "9P9", "01P2", "09P7", "10P3", "99P4").lineCount(4).step(0, 9)
                .numbersOut(2, 7, 3, 4);
        new Bench().type(2, "111", "123E", "991E").lineCount(0);
    }

    private static void lineGoesAway() {
        new Bench().type(0, "1P1", "50P2", "99P3", "1").lineCount(2).step(0, 9).numbersOut(2, 3);
        new Bench().type(0, "1P1", "50P2", "99P3", "99").lineCount(2).step(0, 9).numbersOut(1, 2);
        new Bench().type(0, "1P1", "50P2", "99P3", "50").lineCount(2).step(0, 9).numbersOut(1, 3);
        new Bench().type(0, "7E", "07").lineCount(0).nextLine(0);
        new Bench().lines(10).type(0, "10").lineCount(9).type(0, "10P6").lineCount(10);
    }

    private static void noLineGoesAway() {
        new Bench().type(0, "1", "99").lineCount(0).type(0, "50E", "49", "51", "1", "99", "5").lineCount(1)
                .nextLine(50);
        new Bench().lines(10).type(0, "11", "99").lineCount(10);
    }

    private static void theRest() {
        new Bench().type(0, "1" + TWELVE).type(2, "1" + THIRTEEN).lineCount(1).step(6, 1).numbersOut(21);
        Bench b = new Bench().type(0, "1P5").type(2, "1P", "1P5X", "1EE", "1X", "1 ", "1N", "1S0", "1=5", "10,");
        b.lineCount(1).step(6, 1).numbersOut(5);
        new Bench().type(0, "9A=1+2+3+4+5").step(6, 1).variable('A', 15).type(2, "9A=1+2+3+4+5+", "9A=1+2+3+4+55+6");
    }

    private static void noneOfThisNumber() {
        Bench b = new Bench().lines(10).type(9, "11E", "99E", "55" + TWELVE).lineCount(10);
        b.type(0, "1").type(0, "99E").type(9, "1E").lineCount(10).nextLine(2);
    }

    private static void oneOfThisNumber() {
        Bench b = new Bench().lines(10).type(0, "1P1", "5P5", "10P9").lineCount(10).step(6, 1).numbersOut(1).step(0, 1);
        b.type(0, "2G5").step(6, 3).numbersOut(1, 1, 5);
    }

    private static void twoAheadOfNine() {
        new Bench().lines(10).type(2, "11X", "0E", "99" + THIRTEEN, "11P").type(9, "11P1").lineCount(10);
    }

    private static void noCommand() {
        Bench b = Bench.formatted("1E")
                .type(2, "/", ":", "E", "A=1", "P1", "G1", "W0,0,1", "R0,0,A", "X", " ", "-1", "+1");
        b.type(2, "S", "S8", "S9", "S00", "S0S", "L", "L8", "L/", "D", "D8", "D:", "F0", "FF", "N0", "NN", "C0", "CC");
        b.type(2, " N", "N ", "n", "s0", "0S", "@", "M", "O", "T0", "K0").lineCount(1).files(0).writes(3);
        new Bench().feed(0, 0).feed(2, 10).feed(0, -1).feed(2, 10).feed(0, 255).feed(2, 10).feed(0, 'N' + 256)
                .feed(2, 10);
    }

    private static void onlyTenIsAnswered() {
        Bench b = new Bench().feed(0, '0').feed(0, 'X').feed(0, '9').feed(0, 11).feed(0, 13).typed(5).feed(2, 10);
        b.feed(0, 'S').feed(0, '1').feed(8, 10).feed(0, 'N').lineCount(0).feed(0, 10);
        new Bench().lines(10).feed(0, '1').feed(0, '1').feed(0, 'E').lineCount(10).feed(9, 10);
        new Bench().lines(1).feed(0, 'N').lineCount(1).feed(0, 10).lineCount(0);
    }
}
