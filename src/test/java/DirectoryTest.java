/** Promise 10. */
public final class DirectoryTest {
    public static void main(String[] args) {
        LineDisk x = new LineDisk();
        Check.same("files()", 8, x.files());
        Check.same("format()", 0, x.format());
        Check.same("files()", 0, x.files());
        Check.typeAll(x, "1E", "2W6,0,0");
        for (int n = 0; n < 8; n++) {
            Check.types(x, 0, "S" + n);
            Check.same("files()", n + 1, x.files());
        }
        Check.types(x, 0, "S3");
        Check.same("files() when one is written anew", 8, x.files());
        Check.typeAll(x, "D7", "D0", "D6", "1G2");
        Check.same("files()", 5, x.files());
        Check.same("step(2)", 6, x.step(2));
        Check.same("files() with a record file", 6, x.files());
        x.arm(0);
        Check.types(x, 7, "D6");
        Check.same("files() when dead", 7, x.files());
        Check.same("recover()", 0, x.recover());
        Check.same("files()", 6, x.files());
        deadAndNotFormatted();
        Check.end("DirectoryTest");
    }

    private static void deadAndNotFormatted() {
        LineDisk x = new LineDisk();
        x.arm(0);
        Check.same("format()", 7, x.format());
        Check.same("files() when dead", 7, x.files());
        Check.same("recover()", 8, x.recover());
        Check.same("files()", 8, x.files());
    }
}
