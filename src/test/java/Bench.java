import java.util.function.Consumer;

/** A LineDisk with the answers that are due; its calls are counted, since nothing is promised behind the 512th. */
final class Bench {
    private static final int MOST_CALLS = 512;
    private static final int CELLS = 512;
    private static final int CELLS_AT_ONCE = 64;

    private final LineDisk x = new LineDisk();
    private int calls = 0;

    /** A formatted disk, and these texts typed, each with the answer 0. */
    static Bench formatted(String... texts) {
        return new Bench().format(0).type(0, texts);
    }

    /** All cells behind such calls; each object shows some, so that none of them is called too often. */
    static int[] image(Consumer<Bench> recipe) {
        int[] cells = new int[CELLS];
        for (int from = 0; from < CELLS; from += CELLS_AT_ONCE) {
            Bench b = new Bench();
            recipe.accept(b);
            for (int a = from; a < from + CELLS_AT_ONCE; a++) {
                cells[a] = b.cell(a);
            }
        }
        return cells;
    }

    static void sameImage(String what, Consumer<Bench> want, Consumer<Bench> got) {
        int[] wanted = image(want);
        int[] shown = image(got);
        for (int a = 0; a < CELLS; a++) {
            Check.same(what + ", disk(" + a + ")", wanted[a], shown[a]);
        }
    }

    private LineDisk call() {
        calls++;
        if (calls > MOST_CALLS) {
            throw new IllegalStateException("the test calls its object more often than the document allows");
        }
        return x;
    }

    Bench format(int want) {
        Check.same("format()", want, call().format());
        return this;
    }

    Bench recover(int want) {
        Check.same("recover()", want, call().recover());
        return this;
    }

    Bench feed(int want, int c) {
        Check.same("feed(" + c + ")", want, call().feed(c));
        return this;
    }

    /** Each text is typed with the answers 0, and ended with this answer. */
    Bench type(int want, String... texts) {
        for (String text : texts) {
            for (int i = 0; i < text.length(); i++) {
                Check.same("a character of " + text, 0, call().feed(text.charAt(i)));
            }
            Check.same("typing " + text, want, call().feed(10));
        }
        return this;
    }

    /** So many lines, each but an E. */
    Bench lines(int count) {
        for (int number = 1; number <= count; number++) {
            type(0, number + "E");
        }
        return this;
    }

    Bench step(int want, int n) {
        Check.same("step(" + n + ")", want, call().step(n));
        return this;
    }

    Bench arm(int w) {
        Check.holds("arm(" + w + ")", call().arm(w));
        return this;
    }

    Bench armFails(int w) {
        Check.fails("arm(" + w + ")", IllegalArgumentException.class, () -> call().arm(w));
        return this;
    }

    /** Just these numbers are out. */
    Bench numbersOut(int... want) {
        outs(want.length);
        for (int i = 0; i < want.length; i++) {
            out(want[i], i);
        }
        return outFails(want.length);
    }

    Bench out(int want, int i) {
        int got = want + 1;
        try {
            got = call().out(i);
        } catch (IndexOutOfBoundsException e) {
            Check.holds("out(" + i + ") is there", false);
        }
        Check.same("out(" + i + ")", want, got);
        return this;
    }

    Bench outFails(int i) {
        Check.fails("out(" + i + ")", IndexOutOfBoundsException.class, () -> call().out(i));
        return this;
    }

    Bench outs(int want) {
        Check.same("outs()", want, call().outs());
        return this;
    }

    int cell(int a) {
        return call().disk(a);
    }

    /** The cells from this one on. */
    Bench cells(int from, int... want) {
        for (int i = 0; i < want.length; i++) {
            Check.same("disk(" + (from + i) + ")", want[i], cell(from + i));
        }
        return this;
    }

    /** What the directory says of a file. */
    Bench file(int n, int cells, int first) {
        return cells(16 + 2 * n, cells, first);
    }

    Bench noFile(int n) {
        return file(n, 0, 0);
    }

    Bench diskFails(int a) {
        Check.fails("disk(" + a + ")", IndexOutOfBoundsException.class, () -> call().disk(a));
        return this;
    }

    Bench files(int want) {
        Check.same("files()", want, call().files());
        return this;
    }

    Bench about(int what, int want) {
        Check.same("about(" + what + ")", want, call().about(what));
        return this;
    }

    Bench lineCount(int want) {
        return about(0, want);
    }

    Bench variable(char name, int want) {
        return about(1 + name - 'A', want);
    }

    Bench nextLine(int want) {
        return about(9, want);
    }

    Bench typed(int want) {
        return about(10, want);
    }

    Bench writes(int want) {
        return about(11, want);
    }
}
