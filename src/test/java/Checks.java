import java.util.stream.IntStream;

/** Counts what is not as it is due, and ends a test with exit code 1 if anything was not. */
final class Checks {
    interface Call {
        Object run();
    }

    private static final int[] FAR = {
        Integer.MIN_VALUE, Integer.MIN_VALUE + 1, -65536, -256, -64, -32, 32, 64, 256, 65536,
        Integer.MAX_VALUE - 1, Integer.MAX_VALUE
    };

    private int wrong = 0;
    private int done = 0;
    private String sentence = "";

    /** What a call answers, or throws.X for an exception X. */
    static Object answer(Call call) {
        try {
            return call.run();
        } catch (RuntimeException e) {
            return "throws." + e.getClass().getSimpleName();
        }
    }

    void due(String what, Object want, Call call) {
        Object got = answer(call);
        done++;
        if (!want.equals(got)) {
            wrong++;
            System.out.println(sentence + what + " answered " + got + ", due is " + want);
        }
    }

    /** A sentence of the document that names a boundary case, and the test of its own that it has. */
    void sentence(String words, Runnable test) {
        int before = done;
        sentence = "\"" + words + "\": ";
        test.run();
        if (done == before) {
            wrong++;
            System.out.println(sentence + "nothing was looked at");
        }
        sentence = "";
    }

    /**
     * Numbers that are not low .. high: next to it, as far out as an int goes, and so far that
     * they would come back into it if they lost their upper bits.
     */
    static int[] outside(int low, int high) {
        IntStream near = IntStream.of(low - 1, low - 2, high + 1, high + 2);
        IntStream wrapping = IntStream.of(FAR).map(far -> low + far);
        return IntStream.concat(IntStream.concat(near, wrapping), IntStream.of(FAR))
                .filter(i -> i < low || i > high).distinct().toArray();
    }

    void state(String what, Call call) {
        due(what, "throws.IllegalStateException", call);
    }

    void index(String what, Call call) {
        due(what, "throws.IndexOutOfBoundsException", call);
    }

    void argument(String what, Call call) {
        due(what, "throws.IllegalArgumentException", call);
    }

    void end() {
        System.out.println(done + " answers looked at, " + wrong + " wrong");
        if (wrong > 0 || done == 0) {
            System.exit(1);
        }
    }

    static void typeAll(MaskedCauses m, String text) {
        for (char c : text.toCharArray()) {
            m.type(c);
        }
    }

    /** Types a text and reads it as a decision. */
    static int decide(MaskedCauses m, String text, boolean isShort) {
        typeAll(m, text);
        return m.decision(isShort);
    }

    static String page(MaskedCauses m) {
        StringBuilder page = new StringBuilder();
        for (int p = 0; p < m.length(); p++) {
            page.append(m.charAt(p));
        }
        return page.toString();
    }

    /** Shows a decision and answers the page. */
    static String shown(MaskedCauses m, int decision) {
        m.show(decision);
        return page(m);
    }

    static String suite(MaskedCauses m, int decision, int criterion) {
        StringBuilder words = new StringBuilder();
        int count = m.suite(decision, criterion);
        for (int i = 0; i < count; i++) {
            words.append(i == 0 ? "" : " ").append(m.suiteAt(i));
        }
        return words.toString();
    }

    /** An object with all inputs at their widest and all eight conditions, A to H. */
    static MaskedCauses withEight() {
        MaskedCauses m = new MaskedCauses();
        for (int i = 0; i < 3; i++) {
            m.input(-20, 20);
        }
        for (int i = 0; i < 8; i++) {
            m.condition(i % 2 == 0 ? 0 : 3, i % 3, -1, i);
        }
        return m;
    }

    /** An object with three inputs 0 .. 1, each of which has one condition, true for 1: A, B, C. */
    static MaskedCauses withThreeFree() {
        MaskedCauses m = new MaskedCauses();
        for (int i = 0; i < 3; i++) {
            m.input(0, 1);
        }
        for (int i = 0; i < 3; i++) {
            m.condition(2, i, -1, 1);
        }
        return m;
    }

    /** An object with three inputs 0 .. 2 and, for each, a condition that is true for 1 and one for 2. */
    static MaskedCauses withSix() {
        MaskedCauses m = new MaskedCauses();
        for (int i = 0; i < 3; i++) {
            m.input(0, 2);
        }
        for (int i = 0; i < 6; i++) {
            m.condition(2, i / 2, -1, 1 + i % 2);
        }
        return m;
    }

    /** A: x < 1, B: y - x <= 0, C: y == 1; words 4 and 7 of its decision are not feasible. */
    static MaskedCauses withTwoCoupled() {
        MaskedCauses m = new MaskedCauses();
        m.input(0, 1);
        m.input(0, 2);
        m.condition(1, 0, -1, 1);
        m.condition(0, 1, 0, 0);
        m.condition(2, 1, -1, 1);
        decide(m, "B&A^C", false);
        return m;
    }
}
