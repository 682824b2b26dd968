/** Promise 2. */
public final class FormatTest {
    public static void main(String[] args) {
        writesThreeBlocks();
        workspaceStays();
        headComesLast();
        directoryComesBehindTheLogsHead();
        filesGoButTheirBlocksStay();
        deadAnswersSeven();
        Check.end("FormatTest");
    }

    private static void writesThreeBlocks() {
        LineDisk x = new LineDisk();
        Check.same("format()", 0, x.format());
        Check.same("writes", 3, x.about(11));
        Check.cells(x, 0, 7077, 0, 0, 0, 0, 0, 0, 0, 0, 0, 0, 0, 0, 0, 0, 0);
        for (int a = 16; a < 160; a++) {
            Check.same("disk(" + a + ")", 0, x.disk(a));
        }
        Check.same("format() again", 0, x.format());
        Check.same("writes", 6, x.about(11));
    }

    private static void workspaceStays() {
        LineDisk x = new LineDisk();
        Check.typeAll(x, "10A=5", "20P7", "30E");
        Check.same("step(2)", 6, x.step(2));
        x.feed('4');
        x.feed('0');
        Check.same("format()", 0, x.format());
        Check.same("lines", 3, x.about(0));
        Check.same("A", 5, x.about(1));
        Check.same("the next line", 30, x.about(9));
        Check.same("typed", 2, x.about(10));
        Check.numbersOut(x, 7);
    }

    private static void headComesLast() {
        for (int w = 0; w < 3; w++) {
            LineDisk x = new LineDisk();
            Check.typeAll(x, "1A=1");
            x.arm(w);
            Check.same("format() armed with " + w, 7, x.format());
            Check.same("writes", w, x.about(11));
            Check.same("the head", 0, x.disk(0));
            Check.same("recover()", 8, x.recover());
            Check.same("files()", 8, x.files());
            Check.same("lines", 0, x.about(0));
        }
        LineDisk x = new LineDisk();
        x.arm(3);
        Check.same("format() armed with 3", 0, x.format());
        Check.same("format() armed with 0 now", 7, x.format());
    }

    private static void directoryComesBehindTheLogsHead() {
        LineDisk x = Check.formatted("1E", "S4");
        x.arm(1);
        Check.same("format()", 7, x.format());
        Check.cells(x, 24, 5, 9);
        Check.same("recover()", 0, x.recover());
        Check.same("files()", 1, x.files());
        x.arm(2);
        Check.same("format()", 7, x.format());
        Check.cells(x, 24, 0, 0);
        Check.same("recover()", 0, x.recover());
        Check.same("files()", 0, x.files());
    }

    private static void filesGoButTheirBlocksStay() {
        LineDisk x = Check.formatted("1E", "S4");
        Check.same("format()", 0, x.format());
        Check.same("files()", 0, x.files());
        Check.cells(x, 144, 1, 17, 'E' << 24);
        Check.types(x, 3, "L4");
    }

    private static void deadAnswersSeven() {
        LineDisk x = new LineDisk();
        x.arm(0);
        Check.same("format()", 7, x.format());
        Check.same("format() when dead", 7, x.format());
        Check.same("writes", 0, x.about(11));
        Check.same("recover()", 8, x.recover());
        Check.same("format()", 0, x.format());
    }
}
