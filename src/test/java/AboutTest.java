/** Promise 11. */
public final class AboutTest {
    public static void main(String[] args) {
        Check.same("NONE", -1, LineDisk.NONE);
        another();
        lines();
        nextLine();
        typed();
        writes();
        dead();
        Check.end("AboutTest");
    }

    private static void another() {
        LineDisk x = new LineDisk();
        int[] others = {-1, 12, 13, Integer.MIN_VALUE, Integer.MAX_VALUE};
        for (int what : others) {
            Check.same("about(" + what + ")", LineDisk.NONE, x.about(what));
        }
    }

    private static void lines() {
        LineDisk x = new LineDisk();
        for (int i = 1; i <= 10; i++) {
            Check.types(x, 0, 3 * i + "H=" + i);
            Check.same("lines", i, x.about(0));
        }
        Check.types(x, 0, "15A=4");
        Check.same("lines", 10, x.about(0));
        Check.same("step(11)", 0, x.step(11));
        Check.same("A", 4, x.about(1));
        Check.same("B", 0, x.about(2));
        Check.same("H", 10, x.about(8));
    }

    private static void nextLine() {
        LineDisk x = new LineDisk();
        Check.same("the next line", 0, x.about(9));
        Check.typeAll(x, "50G20");
        Check.same("the next line", 50, x.about(9));
        Check.same("step(1)", 6, x.step(1));
        Check.same("the next line", 50, x.about(9));
        Check.typeAll(x, "19E");
        Check.same("the next line", 50, x.about(9));
        Check.typeAll(x, "20E");
        Check.same("the next line", 20, x.about(9));
        Check.typeAll(x, "20", "50");
        Check.same("the next line", 0, x.about(9));
    }

    private static void typed() {
        LineDisk x = new LineDisk();
        for (int i = 1; i <= 18; i++) {
            x.feed('x');
            Check.same("typed", Math.min(i, 15), x.about(10));
        }
        x.feed(10);
        Check.same("typed", 0, x.about(10));
    }

    private static void writes() {
        LineDisk x = new LineDisk();
        x.format();
        Check.same("writes", 3, x.about(11));
        Check.typeAll(x, "1W0,0,1", "S1");
        Check.same("writes", 9, x.about(11));
        Check.same("step(1)", 6, x.step(1));
        Check.same("writes", 15, x.about(11));
        Check.typeAll(x, "C", "L1", "F", "D1");
        Check.same("writes", 19, x.about(11));
        x.arm(2);
        Check.same("step(1)", 7, x.step(1));
        Check.same("writes when dead", 21, x.about(11));
        Check.same("recover()", 0, x.recover());
        Check.same("writes", 23, x.about(11));
    }

    private static void dead() {
        LineDisk x = Check.formatted("1A=2");
        Check.same("step(1)", 6, x.step(1));
        x.arm(0);
        Check.same("format()", 7, x.format());
        for (int what = -1; what <= 12; what++) {
            Check.same("about(" + what + ") when dead", what == 11 ? 3 : 7, x.about(what));
        }
        Check.same("recover()", 0, x.recover());
        for (int what = 0; what <= 10; what++) {
            Check.same("about(" + what + ")", 0, x.about(what));
        }
    }
}
