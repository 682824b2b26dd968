/** Promise 1. */
public final class NewObjectTest {
    public static void main(String[] args) {
        emptyDisk();
        emptyWorkspace();
        notDeadAndNotArmed();
        objectsDoNotShare();
        Check.end("NewObjectTest");
    }

    private static void emptyDisk() {
        LineDisk x = new LineDisk();
        for (int a = 0; a < 512; a++) {
            Check.same("disk(" + a + ")", 0, x.disk(a));
        }
    }

    private static void emptyWorkspace() {
        LineDisk x = new LineDisk();
        for (int what = 0; what <= 11; what++) {
            Check.same("about(" + what + ")", 0, x.about(what));
        }
        Check.same("outs()", 0, x.outs());
        Check.fails("out(0)", IndexOutOfBoundsException.class, () -> x.out(0));
        Check.same("step(1)", 0, x.step(1));
    }

    private static void notDeadAndNotArmed() {
        LineDisk x = new LineDisk();
        Check.same("files()", 8, x.files());
        Check.same("feed('A')", 0, x.feed('A'));
        Check.same("format()", 0, x.format());
        Check.same("files()", 0, x.files());
    }

    private static void objectsDoNotShare() {
        LineDisk x = Check.formatted("1P5", "S0");
        x.step(1);
        LineDisk y = new LineDisk();
        Check.same("another's files()", 8, y.files());
        Check.same("another's lines", 0, y.about(0));
        Check.same("another's outs()", 0, y.outs());
        Check.same("another's writes", 0, y.about(11));
        Check.same("another's cell", 0, y.disk(0));
    }
}
