import java.util.Random;

/** Runs of at most 512 calls, chosen by fixed seeds, in which the program and the model must answer alike. */
public final class ModelTest {
    private static final int RUNS = 6000;
    private static final int MOST_CALLS = 512;
    private static final String ALPHABET = "ABCDEFGHPIGEWRSLDNC0123456789+-*()<=>,X ";

    private final Random random;
    private final LineDisk x = new LineDisk();
    private final Model model = new Model();
    private final StringBuilder calls = new StringBuilder();
    private int left = MOST_CALLS;
    private boolean alike = true;

    private ModelTest(long seed) {
        random = new Random(seed);
    }

    public static void main(String[] args) {
        for (int seed = 0; seed < RUNS; seed++) {
            new ModelTest(seed).run(seed);
        }
        Check.end("ModelTest");
    }

    private void run(int seed) {
        if (seed % 10 != 0) {
            answer("format()", model.format(), x.format());
        }
        if (seed % 3 == 0) {
            manyLines();
        }
        while (left > 0 && alike) {
            act(seed % 2 == 0);
        }
        Check.holds("run " + seed + " was alike", alike);
    }

    private int below(int n) {
        return random.nextInt(n);
    }

    private boolean may() {
        left--;
        return left >= 0 && alike;
    }

    private void answer(String call, long want, long got) {
        calls.append(call).append(' ');
        if (want != got) {
            alike = false;
            System.out.println(calls);
            Check.same(call, want, got);
        }
    }

    private void act(boolean crashes) {
        int kind = below(100);
        if (model.isDead() && kind < 50) {
            recover();
        } else if (kind < 40) {
            type(text());
        } else if (kind < 60) {
            step();
        } else if (kind < 65) {
            arm(crashes);
        } else if (kind < 85) {
            disk();
        } else if (kind < 90) {
            numbersOut();
        } else if (kind < 97) {
            about();
        } else if (kind < 98) {
            if (may()) {
                answer("files()", model.files(), x.files());
            }
        } else if (kind < 99 || crashes) {
            feed(below(300) - 20);
        } else if (below(4) == 0 && may()) {
            answer("format()", model.format(), x.format());
        }
    }

    private void recover() {
        if (below(3) == 0) {
            arm(true);
        }
        if (may()) {
            answer("recover()", model.recover(), x.recover());
        }
    }

    private void step() {
        if (may()) {
            int n = below(4) == 0 ? below(60) - 4 : 1 + below(4);
            answer("step(" + n + ")", model.step(n), x.step(n));
        }
    }

    private void arm(boolean crashes) {
        if (may()) {
            int w = crashes ? below(12) : 500 + below(501);
            model.arm(w);
            answer("arm(" + w + ")", 1, x.arm(w) ? 1 : 0);
        }
    }

    private void disk() {
        if (may()) {
            int a = below(3) == 0 ? below(512) : below(2) == 0 ? 16 + below(48) : 144 + below(64);
            answer("disk(" + a + ")", model.disk(a), x.disk(a));
        }
    }

    private void numbersOut() {
        if (may()) {
            answer("outs()", model.outs(), x.outs());
        }
        if (may()) {
            int i = below(3) == 0 ? below(70) - 3 : Math.max(0, model.outs() - 1 - below(3));
            long got;
            try {
                got = x.out(i);
            } catch (IndexOutOfBoundsException e) {
                got = Long.MIN_VALUE;
            }
            answer("out(" + i + ")", model.out(i) == null ? Long.MIN_VALUE : model.out(i), got);
        }
    }

    private void about() {
        if (may()) {
            int what = below(14) - 1;
            answer("about(" + what + ")", model.about(what), x.about(what));
        }
    }

    private void feed(int c) {
        if (may()) {
            answer("feed(" + c + ")", model.feed(c), x.feed(c));
        }
    }

    private void type(String text) {
        for (int i = 0; i < text.length(); i++) {
            feed(text.charAt(i));
        }
        feed(10);
    }

    private void manyLines() {
        int count = 4 + below(7);
        for (int number = 1; number <= count; number++) {
            type(number + "E");
        }
        for (int k = 0; k < 30; k++) {
            int kind = below(12);
            if (kind < 6) {
                type("S" + below(8));
            } else if (kind < 9) {
                type("D" + below(8));
            } else if (kind < 10) {
                type("L" + below(8));
            } else {
                type(1 + below(10) + (below(3) == 0 ? "" : "W" + below(8) + ",1,1"));
            }
        }
    }

    private String text() {
        String text = plainText();
        if (below(12) != 0) {
            return text;
        }
        int at = below(text.length() + 1);
        String other = String.valueOf(ALPHABET.charAt(below(ALPHABET.length())));
        switch (below(3)) {
            case 0:
                return text.substring(0, at) + other + text.substring(at);
            case 1:
                return text.substring(0, Math.max(0, at - 1)) + text.substring(at);
            default:
                return text.substring(0, Math.max(0, at - 1)) + other + text.substring(at);
        }
    }

    private String plainText() {
        switch (below(10)) {
            case 0:
                return "S" + below(8);
            case 1:
                return "L" + below(8);
            case 2:
                return below(2) == 0 ? "D" + below(8) : "F";
            case 3:
                return below(3) == 0 ? below(2) == 0 ? "N" : "C" : String.valueOf(1 + below(20));
            default:
                return 1 + below(below(4) == 0 ? 99 : 14) + statement();
        }
    }

    private String statement() {
        switch (below(9)) {
            case 0:
            case 1:
                return variable() + "=" + value(2);
            case 2:
                return "P" + value(2);
            case 3:
                return "I" + value(1) + "<=>".charAt(below(3)) + value(1) + "G" + (1 + below(20));
            case 4:
                return "G" + below(25);
            case 5:
                return below(3) == 0 ? "E" : "P" + variable();
            case 6:
            case 7:
                return "W" + below(8) + "," + index() + "," + value(1);
            default:
                return "R" + below(8) + "," + index() + "," + variable();
        }
    }

    private String index() {
        return below(4) == 0 ? value(1) : String.valueOf(below(17));
    }

    private String value(int depth) {
        switch (below(depth > 0 ? 6 : 3)) {
            case 0:
                return String.valueOf(below(10));
            case 1:
                return String.valueOf(below(100000));
            case 2:
                return String.valueOf(variable());
            case 3:
                return "(" + value(depth - 1) + ")";
            default:
                return value(depth - 1) + "+-*".charAt(below(3)) + value(depth - 1);
        }
    }

    private char variable() {
        return (char) ('A' + below(8));
    }
}
