/** Promises 7 and 8. */
public final class OutTest {
    public static void main(String[] args) {
        nothingIsOut();
        firstSixtyAreKept();
        staysWhenDead();
        clearedAndOutAnew();
        Check.end("OutTest");
    }

    private static void nothingIsOut() {
        LineDisk x = new LineDisk();
        Check.same("outs()", 0, x.outs());
        int[] wrong = {0, 1, -1, 60, Integer.MIN_VALUE, Integer.MAX_VALUE};
        for (int i : wrong) {
            Check.fails("out(" + i + ")", IndexOutOfBoundsException.class, () -> x.out(i));
        }
    }

    private static LineDisk counting() {
        LineDisk x = new LineDisk();
        Check.typeAll(x, "1A=A+1", "2P0-A", "3G1");
        return x;
    }

    private static void firstSixtyAreKept() {
        LineDisk x = counting();
        for (int i = 0; i < 62; i++) {
            int next = i;
            Check.same("outs()", i, x.outs());
            Check.fails("out(" + i + ")", IndexOutOfBoundsException.class, () -> x.out(next));
            Check.same("step(3)", 6, x.step(3));
        }
        Check.same("outs()", 62, x.outs());
        for (int i = 0; i < 60; i++) {
            Check.same("out(" + i + ")", -(i + 1), x.out(i));
        }
        Check.fails("out(60)", IndexOutOfBoundsException.class, () -> x.out(60));
        Check.fails("out(61)", IndexOutOfBoundsException.class, () -> x.out(61));
        Check.fails("out(62)", IndexOutOfBoundsException.class, () -> x.out(62));
        Check.fails("out(-1)", IndexOutOfBoundsException.class, () -> x.out(-1));
    }

    private static void staysWhenDead() {
        LineDisk x = counting();
        Check.same("step(6)", 6, x.step(6));
        x.arm(0);
        Check.same("format()", 7, x.format());
        Check.numbersOut(x, -1, -2);
        Check.same("recover()", 8, x.recover());
        Check.numbersOut(x, -1, -2);
    }

    private static void clearedAndOutAnew() {
        LineDisk x = counting();
        for (int i = 0; i < 5; i++) {
            Check.same("step(50)", 6, x.step(50));
        }
        Check.same("outs()", 83, x.outs());
        Check.typeAll(x, "C");
        Check.same("outs()", 0, x.outs());
        Check.fails("out(0)", IndexOutOfBoundsException.class, () -> x.out(0));
        Check.same("step(2)", 6, x.step(2));
        Check.numbersOut(x, -1);
        Check.fails("out(1)", IndexOutOfBoundsException.class, () -> x.out(1));
    }
}
