/** What "Terms" says of a STATEMENT: for each rule the shortest and longest texts that keep to it, and those beside. */
public final class GrammarEdgesTest {
    private static final String OTHER_THAN_A_TO_H = "@IJZah[ ";

    public static void main(String[] args) {
        Check.sentence("no spaces", GrammarEdgesTest::noSpaces);
        Check.sentence("V is a letter A .. H", GrammarEdgesTest::variables);
        Check.sentence("a statement that begins with E= or G= is one of the first kind", GrammarEdgesTest::firstKind);
        Check.sentence("the text must be just one statement", GrammarEdgesTest::justOne);
        Check.sentence("V = value", GrammarEdgesTest::let);
        Check.sentence("P value", GrammarEdgesTest::print);
        Check.sentence("I value sign value G number", GrammarEdgesTest::condition);
        Check.sentence("G number", GrammarEdgesTest::jump);
        Check.sentence("E", GrammarEdgesTest::end);
        Check.sentence("W digit , value , value", GrammarEdgesTest::writeRecord);
        Check.sentence("R digit , value , V", GrammarEdgesTest::readRecord);
        Check.sentence("value: product { (+ or -) product }", GrammarEdgesTest::sums);
        Check.sentence("product: piece { * piece }", GrammarEdgesTest::products);
        Check.sentence("digits (1 to 5)", GrammarEdgesTest::digits);
        Check.sentence("or ( value )", GrammarEdgesTest::brackets);
        Check.sentence("sign: < = >", GrammarEdgesTest::signs);
        Check.sentence("number: 1 or 2 digits, 1 .. 99", GrammarEdgesTest::numbers);
        Check.sentence("digit: 0 .. 7", GrammarEdgesTest::fileDigits);
        Check.sentence("{x}: any number of times", GrammarEdgesTest::anyNumberOfTimes);
        Check.end("GrammarEdgesTest");
    }

    private static void good(String... statements) {
        for (String text : statements) {
            new Bench().type(0, "1" + text).lineCount(1).type(0, "99" + text).lineCount(2);
        }
    }

    private static void bad(String... statements) {
        for (String text : statements) {
            new Bench().type(2, "99" + text).lineCount(0);
        }
    }

    private static void value(int want, String value) {
        new Bench().type(0, "1P" + value).step(6, 1).numbersOut(want);
    }

    private static void noSpaces() {
        for (String text : new String[] {"A=1+2", "PA", "I1<2G9", "G9", "E", "W0,1,2", "R0,1,A"}) {
            good(text);
            for (int at = 0; at <= text.length(); at++) {
                bad(text.substring(0, at) + " " + text.substring(at));
            }
        }
    }

    private static void variables() {
        for (char v = 'A'; v <= 'H'; v++) {
            good(v + "=1", "P" + v, "R0,0," + v);
            new Bench().type(0, "1" + v + "=7", "2P" + v).step(6, 2).variable(v, 7).numbersOut(7);
        }
        for (char v : OTHER_THAN_A_TO_H.toCharArray()) {
            bad(v + "=1", "P" + v, "R0,0," + v);
        }
    }

    private static void firstKind() {
        good("E=0", "G=0", "E=E", "G=G", "G=1+G");
        bad("E=", "G=", "G=1G", "EE=1", "GG=1");
        new Bench().type(0, "1E=5", "2G=9").step(6, 2).variable('E', 5).variable('G', 9).nextLine(0);
    }

    private static void justOne() {
        bad("A=1A=2", "A=1=2", "PAPA", "PAE", "G1G2", "G1E", "EE", "E1", "I1<2G1E", "W0,1,2,3", "W0,1,2E", "R0,1,A1",
                "R0,1,AB", "R0,1,A,1", "P1,", "P1=", "P1<2");
    }

    private static void let() {
        good("A=0", "H=99999", "A=1+2+3+4+5");
        bad("A", "A=", "=1", "=", "A==1", "A-1", "A1", "AA=1", "1=1", "A=A=A", "I=1", "P=1", "W=1", "R=1");
    }

    private static void print() {
        good("P0", "PA", "P1+2+3+4+5+6");
        bad("P", "P=1", "PP", "P,1", "P<");
    }

    private static void condition() {
        good("I1<2G3", "IG=GG1", "IA>BG99", "I12345<67G89", "I((1))=(2)G3");
        bad("I", "I1", "I1<", "I1<2", "I1<2G", "I<2G3", "I1<G3", "I12G3", "I1<2 3", "I1<23", "I1<2E", "I1<2A=3", "IG3",
                "I1=2=3G4");
    }

    private static void jump() {
        good("G1", "G99");
        bad("G", "GA", "G(1)", "G1+1", "G-1", "G+1");
    }

    private static void end() {
        good("E");
        bad("E0", "E,", "EA", "e");
    }

    private static void writeRecord() {
        good("W0,0,0", "W7,A,H", "W1,1+2,3*4", "W1,(1),22222");
        bad("W", "W0", "W0,", "W0,1", "W0,1,", "W,1,2", "W0,,2", "W01,2", "W0,12", "W0;1;2", "W,,", "W0,1;2");
    }

    private static void readRecord() {
        good("R0,0,A", "R7,H,H", "R1,1+2*3,E", "R1,(1),G");
        bad("R", "R0", "R0,", "R0,1", "R0,1,", "R,1,A", "R0,,A", "R01,A", "R0,1A", "R0,1,1", "R0,1,(A)", "R0,A", "R,,");
    }

    private static void sums() {
        value(1, "1");
        value(21, "1+2+3+4+5+6");
        value(-19, "1-2-3-4-5-6");
        value(2, "3-2+1");
        bad("P+1", "P-1", "P1+", "P1-", "P1++2", "P1--2", "P1+-2", "P1-+2", "P+", "P-", "P1/2", "P1.2");
    }

    private static void products() {
        value(7, "7");
        value(720, "2*3*4*5*6");
        value(0, "0*9*9*9*9*9");
        value(7, "1+2*3");
        value(5, "1*2+3");
        value(-5, "1-2*3");
        bad("P*1", "P1*", "P1**2", "P*", "P1*+2", "P1+*2", "P1*-2");
    }

    private static void digits() {
        value(0, "0");
        value(9, "9");
        value(0, "00000");
        value(99999, "99999");
        value(7, "00007");
        bad("P", "P123456", "P000001", "P999999", "A=123456", "P1+123456", "P(123456)", "I123456=1G1", "W0,123456,1");
        good("P12345+67890", "I12345=1G1", "W0,12345,1", "R0,12345,A");
    }

    private static void brackets() {
        value(7, "(7)");
        value(7, "(((((7)))))");
        value(9, "(1+2)*(3)");
        value(8, "2*(3-(4-5))");
        bad("P()", "P(", "P)", "P(1", "P1)", "P((1)", "P(1))", "P)(", "P(1)(2)", "P(1)2", "P1(2)", "P(+1)", "P(1+)",
                "P(((((((((((", "P((((((1)))))", "P(1,2)", "P(1=1)", "P[1]");
    }

    private static void signs() {
        good("I1<1G1", "I1=1G1", "I1>1G1");
        bad("I1;1G1", "I1?1G1", "I1<=1G1", "I1>=1G1", "I1<>1G1", "I1==1G1", "I1!1G1", "I1,1G1", "I1+1G1", "IA1G1",
                "I1(1)G1");
    }

    private static void numbers() {
        good("G1", "G9", "G10", "G99", "G01", "G09", "I1<2G1", "I1<2G99", "I1<2G01");
        bad("G0", "G00", "G100", "G001", "G999", "I1<2G0", "I1<2G00", "I1<2G100", "I1<2G001");
    }

    private static void fileDigits() {
        good("W0,0,0", "W7,0,0", "R0,0,A", "R7,0,A");
        bad("W8,0,0", "W9,0,0", "W/,0,0", "W00,0,0", "W07,0,0", "WA,0,0", "R8,0,A", "R9,0,A", "R/,0,A", "R00,0,A",
                "RA,0,A");
        Bench b = Bench.formatted("1E", "S0", "S7", "L0", "L7", "D0", "D7").files(0);
        b.type(2, "S8", "S9", "S/", "L8", "L9", "L/", "D8", "D9", "D/").files(0);
    }

    private static void anyNumberOfTimes() {
        value(1, "1");
        value(2, "1+1");
        value(6, "1+1+1+1+1+1");
        value(2, "2*1");
        value(64, "2*2*2*2*2*2");
        value(8, "2*2+2*2");
        value(4, "2*2-2*2+2*2");
    }
}
