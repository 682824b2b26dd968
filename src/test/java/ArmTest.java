/** Promise 6, and what DEAD means. */
public final class ArmTest {
    public static void main(String[] args) {
        refuses();
        thatManyWritesAreMade();
        armedAnew();
        refusedKeepsWhatIsArmed();
        deadCalls();
        nothingIsArmedBehindADeath();
        armedWhenDead();
        Check.end("ArmTest");
    }

    private static void refuses() {
        LineDisk x = new LineDisk();
        int[] wrong = {-1, 1001, Integer.MIN_VALUE, Integer.MAX_VALUE};
        for (int w : wrong) {
            Check.fails("arm(" + w + ")", IllegalArgumentException.class, () -> x.arm(w));
        }
        Check.same("format() is not armed", 0, x.format());
        Check.holds("arm(0)", x.arm(0));
        Check.holds("arm(1000)", x.arm(1000));
        Check.same("format()", 0, x.format());
    }

    private static void thatManyWritesAreMade() {
        for (int w = 0; w < 12; w++) {
            LineDisk x = new LineDisk();
            Check.holds("arm(" + w + ")", x.arm(w));
            for (int i = 0; i < 4; i++) {
                Check.same("format() armed with " + w, 3 * (i + 1) <= w ? 0 : 7, x.format());
            }
            Check.same("writes", w, x.about(11));
        }
        LineDisk x = new LineDisk();
        x.arm(1000);
        for (int i = 0; i < 333; i++) {
            Check.same("format()", 0, x.format());
        }
        Check.same("format()", 7, x.format());
        Check.same("writes", 1000, x.about(11));
    }

    private static void armedAnew() {
        LineDisk x = new LineDisk();
        x.arm(0);
        x.arm(3);
        Check.same("format()", 0, x.format());
        x.arm(2);
        x.arm(1);
        Check.same("format()", 7, x.format());
        Check.same("writes", 4, x.about(11));
    }

    private static void refusedKeepsWhatIsArmed() {
        LineDisk x = new LineDisk();
        x.arm(1);
        Check.fails("arm(-1)", IllegalArgumentException.class, () -> x.arm(-1));
        Check.same("format()", 7, x.format());
        Check.same("writes", 1, x.about(11));
    }

    private static void deadCalls() {
        LineDisk x = Check.formatted("1P3", "2E");
        Check.same("step(1)", 6, x.step(1));
        x.arm(0);
        Check.types(x, 7, "S0");
        Check.same("format()", 7, x.format());
        Check.same("feed('N')", 7, x.feed('N'));
        Check.same("feed(10)", 7, x.feed(10));
        Check.same("step(1)", 7, x.step(1));
        Check.same("files()", 7, x.files());
        Check.same("about(0)", 7, x.about(0));
        Check.same("about(11)", 3, x.about(11));
        Check.numbersOut(x, 3);
        Check.fails("out(1)", IndexOutOfBoundsException.class, () -> x.out(1));
        Check.same("disk(0)", 7077, x.disk(0));
        Check.fails("disk(512)", IndexOutOfBoundsException.class, () -> x.disk(512));
        Check.fails("arm(1001)", IllegalArgumentException.class, () -> x.arm(1001));
        Check.holds("arm(1000)", x.arm(1000));
        Check.same("recover()", 0, x.recover());
        Check.same("files()", 0, x.files());
    }

    private static void nothingIsArmedBehindADeath() {
        LineDisk x = Check.formatted("1W0,0,1");
        x.arm(3);
        Check.same("step(1)", 7, x.step(1));
        Check.same("recover() is not armed", 0, x.recover());
        Check.same("format() is not armed", 0, x.format());
    }

    private static void armedWhenDead() {
        LineDisk x = Check.formatted("1W0,0,1");
        x.arm(3);
        Check.same("step(1)", 7, x.step(1));
        Check.holds("arm(2)", x.arm(2));
        Check.same("recover()", 7, x.recover());
        Check.same("files()", 7, x.files());
        Check.same("recover()", 0, x.recover());
    }
}
