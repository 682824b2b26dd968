/** What the tests share: comparing answers, typing texts, and the exit code. */
final class Check {
    private static int wrong = 0;
    private static int checks = 0;
    private static int sentences = 0;
    private static String sentence = "";

    private Check() {
    }

    /** Runs the test of one sentence of the document; what is wrong in it is told with its words. */
    static void sentence(String words, Runnable test) {
        sentence = "\"" + words + "\": ";
        sentences++;
        int before = checks;
        test.run();
        holds("there is a check", checks > before);
        sentence = "";
    }

    static void same(String what, long want, long got) {
        checks++;
        if (want != got) {
            tellWrong(what + " answered " + got + ", due is " + want);
        }
    }

    private static void tellWrong(String what) {
        wrong++;
        System.out.println(sentence + what);
    }

    static void holds(String what, boolean is) {
        same(what, 1, is ? 1 : 0);
    }

    static void fails(String what, Class<? extends RuntimeException> due, Runnable call) {
        Class<?> thrown = null;
        try {
            call.run();
        } catch (RuntimeException e) {
            thrown = e.getClass();
        }
        checks++;
        if (thrown != due) {
            tellWrong(what + " threw " + thrown + ", due is " + due);
        }
    }

    /** Types a text and the character 10: the answer to that. */
    static int type(LineDisk x, String text) {
        for (int i = 0; i < text.length(); i++) {
            same("a character of " + text, 0, x.feed(text.charAt(i)));
        }
        return x.feed(10);
    }

    static void types(LineDisk x, int want, String text) {
        same("typing " + text, want, type(x, text));
    }

    /** A new object with a formatted disk on which these texts are typed, each with the answer 0. */
    static LineDisk formatted(String... texts) {
        LineDisk x = new LineDisk();
        same("format()", 0, x.format());
        typeAll(x, texts);
        return x;
    }

    static void typeAll(LineDisk x, String... texts) {
        for (String text : texts) {
            types(x, 0, text);
        }
    }

    static void cells(LineDisk x, int from, int... want) {
        for (int i = 0; i < want.length; i++) {
            same("disk(" + (from + i) + ")", want[i], x.disk(from + i));
        }
    }

    static void numbersOut(LineDisk x, int... want) {
        same("outs()", want.length, x.outs());
        for (int i = 0; i < want.length && i < x.outs(); i++) {
            same("out(" + i + ")", want[i], x.out(i));
        }
    }

    /** What P says of a value in a workspace of its own. */
    static int valueOf(String value) {
        LineDisk x = new LineDisk();
        types(x, 0, "1P" + value);
        same("step(1)", 6, x.step(1));
        return x.outs() == 1 ? x.out(0) : Integer.MIN_VALUE;
    }

    static void end(String name) {
        String of = sentences == 0 ? "" : " of " + sentences + " sentences";
        System.out.println(name + ": " + checks + " checks" + of + ", " + wrong + " wrong");
        if (wrong != 0 || checks == 0) {
            System.exit(1);
        }
    }
}
