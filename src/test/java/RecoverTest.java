/** Promise 3, and what a transaction leaves behind when a crash comes ahead of each of its writes. */
public final class RecoverTest {
    private static final String[] OLD = {"1A=1", "2A=2", "3A=3", "4A=4"};
    private static final String[] NEW = {"1B=1", "2B=2", "3B=3", "4B=4", "5B=5"};

    public static void main(String[] args) {
        notFormatted();
        nothingToDo();
        workspaceIsEmptyButOut();
        armedNoMore();
        wholeOrNothing();
        newRecordFileIsWholeOrNothing();
        deletedIsWholeOrNothing();
        crashInRecovery();
        logIsAsTheDocumentSays();
        recordIsReplacedInTheLog();
        Check.end("RecoverTest");
    }

    private static void notFormatted() {
        LineDisk x = new LineDisk();
        Check.typeAll(x, "1A=1");
        Check.same("recover()", 8, x.recover());
        Check.same("lines", 0, x.about(0));
        x.arm(0);
        Check.same("recover()", 8, x.recover());
        Check.same("format() is not armed", 0, x.format());
    }

    private static void nothingToDo() {
        LineDisk x = Check.formatted("1E", "S1");
        int writes = x.about(11);
        x.arm(0);
        Check.same("recover()", 0, x.recover());
        Check.same("writes", writes, x.about(11));
        Check.same("files()", 1, x.files());
    }

    private static void workspaceIsEmptyButOut() {
        LineDisk x = Check.formatted("10H=3", "20P8", "30E");
        Check.same("step(2)", 6, x.step(2));
        x.feed('5');
        Check.same("recover()", 0, x.recover());
        Check.same("lines", 0, x.about(0));
        Check.same("H", 0, x.about(8));
        Check.same("typed", 0, x.about(10));
        Check.numbersOut(x, 8);
        Check.typeAll(x, "10P1", "20P2");
        Check.same("NEXT is 0", 10, x.about(9));
    }

    private static void armedNoMore() {
        LineDisk x = Check.formatted("1E");
        x.arm(0);
        Check.same("recover()", 0, x.recover());
        Check.same("format()", 0, x.format());
        Check.typeAll(x, "1E");
        x.arm(4);
        Check.types(x, 7, "S0");
        x.arm(4);
        Check.same("recover() makes 3 writes", 0, x.recover());
        Check.same("format()", 0, x.format());
    }

    /** 2 blocks and the directory: 3 log blocks, the log's head, 3 blocks, the log's head. */
    private static void wholeOrNothing() {
        for (int w = 0; w <= 8; w++) {
            LineDisk x = Check.formatted(OLD);
            Check.typeAll(x, "S5", "N");
            Check.typeAll(x, NEW);
            int before = x.about(11);
            x.arm(w);
            Check.types(x, w < 8 ? 7 : 0, "S5");
            Check.same("writes", before + w, x.about(11));
            Check.same("the log's head", w >= 4 && w < 8 ? 3 : 0, x.disk(32));
            Check.same("recover()", 0, x.recover());
            int replayed = w >= 4 && w < 8 ? 4 : 0;
            Check.same("writes", before + w + replayed, x.about(11));
            Check.same("the log's head", 0, x.disk(32));
            Check.typeAll(x, "L5");
            Check.same("lines", w < 4 ? OLD.length : NEW.length, x.about(0));
            Check.same("step(50)", 0, x.step(50));
            Check.same("A", w < 4 ? 4 : 0, x.about(1));
            Check.same("B", w < 4 ? 0 : 5, x.about(2));
        }
    }

    private static void newRecordFileIsWholeOrNothing() {
        for (int w = 0; w <= 6; w++) {
            LineDisk x = Check.formatted("1W7,15,9");
            x.arm(w);
            Check.same("step(1) armed with " + w, w < 6 ? 7 : 6, x.step(1));
            Check.same("recover()", 0, x.recover());
            Check.same("files()", w < 3 ? 0 : 1, x.files());
            Check.cells(x, 30, w < 3 ? 0 : 16, w < 3 ? 0 : 9);
            Check.typeAll(x, "1R7,15,A");
            Check.same("step(1)", w < 3 ? 3 : 6, x.step(1));
            Check.same("A", w < 3 ? 0 : 9, x.about(1));
        }
    }

    private static void deletedIsWholeOrNothing() {
        for (int w = 0; w <= 4; w++) {
            LineDisk x = Check.formatted("1E", "S2");
            x.arm(w);
            Check.types(x, w < 4 ? 7 : 0, "D2");
            Check.same("recover()", 0, x.recover());
            Check.same("files()", w < 2 ? 1 : 0, x.files());
            Check.cells(x, 20, w < 2 ? 5 : 0, w < 2 ? 9 : 0);
        }
    }

    private static void crashInRecovery() {
        LineDisk x = Check.formatted("1W0,0,5");
        x.arm(3);
        Check.same("step(1)", 7, x.step(1));
        for (int w = 0; w < 3; w++) {
            int before = x.about(11);
            x.arm(w);
            Check.same("recover() armed with " + w, 7, x.recover());
            Check.same("writes", before + w, x.about(11));
            Check.same("files() when dead", 7, x.files());
            Check.same("the log's head", 2, x.disk(32));
            Check.cells(x, 16, w < 1 ? 0 : 16, w < 1 ? 0 : 9);
            Check.same("the record", w < 2 ? 0 : 5, x.disk(144));
        }
        Check.same("recover()", 0, x.recover());
        Check.same("the log's head", 0, x.disk(32));
        Check.same("files()", 1, x.files());
        Check.same("recover() is done", 0, x.recover());
    }

    private static void logIsAsTheDocumentSays() {
        LineDisk x = Check.formatted("1W3,2,77");
        x.arm(3);
        Check.same("step(1)", 7, x.step(1));
        Check.cells(x, 32, 2, 1, 9, 0, 0, 0, 0, 0, 0, 0, 0, 0, 0, 0, 0, 0);
        Check.cells(x, 48, 0, 0, 0, 0, 0, 0, 16, 9, 0, 0, 0, 0, 0, 0, 0, 0);
        Check.cells(x, 64, 0, 0, 77, 0);
        Check.cells(x, 16, 0, 0, 0, 0, 0, 0, 0, 0);
        Check.same("recover()", 0, x.recover());
        Check.cells(x, 32, 0, 0, 0, 0);
        Check.cells(x, 22, 16, 9);
        Check.cells(x, 144, 0, 0, 77, 0);
        Check.cells(x, 48, 0, 0, 0, 0, 0, 0, 16, 9);
    }

    private static void recordIsReplacedInTheLog() {
        LineDisk x = Check.formatted("1W3,2,77", "2W3,4,55");
        Check.same("step(1)", 6, x.step(1));
        x.arm(2);
        Check.same("step(1)", 7, x.step(1));
        Check.cells(x, 32, 1, 9, 0, 0);
        Check.cells(x, 48, 0, 0, 77, 0, 55, 0);
        Check.cells(x, 144, 0, 0, 77, 0, 0, 0);
        Check.same("recover()", 0, x.recover());
        Check.cells(x, 144, 0, 0, 77, 0, 55, 0);
    }
}
