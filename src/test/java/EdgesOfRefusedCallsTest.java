/**
 * Each refused call: which exception it throws, which one wins where it deserves more than one, and
 * that nothing has changed behind it.
 */
public final class EdgesOfRefusedCallsTest {
    private static final Checks CHECKS = new Checks();
    private static final Refusals REFUSALS = new Refusals(CHECKS);

    public static void main(String[] args) {
        CHECKS.sentence("2: IllegalState: there are 3, or a condition", EdgesOfRefusedCallsTest::inputState);
        CHECKS.sentence("2: IllegalArgument: not -20 <= low <= high <= 20",
                EdgesOfRefusedCallsTest::inputArgument);
        CHECKS.sentence("3: IllegalState: there are 8", EdgesOfRefusedCallsTest::conditionState);
        CHECKS.sentence("3: IndexOutOfBounds: a is no input, or b neither",
                EdgesOfRefusedCallsTest::conditionIndex);
        CHECKS.sentence("3: IllegalArgument: kind is not 0 .. 3, k not -50 .. 50, or a and b are the same",
                EdgesOfRefusedCallsTest::conditionArgument);
        CHECKS.sentence("4: false when c is not 32 .. 126 or there are 40",
                EdgesOfRefusedCallsTest::typeFalse);
        CHECKS.sentence("6: IllegalState: there are 4, or no condition (the text stays)",
                EdgesOfRefusedCallsTest::decisionState);
        CHECKS.sentence("7, 8, 9: IndexOutOfBounds", EdgesOfRefusedCallsTest::indexOfDecision);
        CHECKS.sentence("10: IndexOutOfBounds, also if there is no such input",
                EdgesOfRefusedCallsTest::vectorIndex);
        CHECKS.sentence("10: IllegalState: the word is not feasible", EdgesOfRefusedCallsTest::vectorState);
        CHECKS.sentence("11, 12: IndexOutOfBounds", EdgesOfRefusedCallsTest::indexOfWord);
        CHECKS.sentence("12: IndexOutOfBounds of a condition", EdgesOfRefusedCallsTest::evaluatedIndex);
        CHECKS.sentence("13, 19: IndexOutOfBounds; IllegalArgument",
                EdgesOfRefusedCallsTest::conditionAndCriterion);
        CHECKS.sentence("14, 16, 20: IndexOutOfBounds; IllegalArgument",
                EdgesOfRefusedCallsTest::decisionAndCriterion);
        CHECKS.sentence("17: IllegalState: there are 12, or no condition", EdgesOfRefusedCallsTest::keepState);
        CHECKS.sentence("17: IllegalArgument: it is out of range", EdgesOfRefusedCallsTest::keepArgument);
        CHECKS.sentence("IndexOutOfBounds: there is no such decision: while there is none",
                EdgesOfRefusedCallsTest::whileThereIsNothing);
        CHECKS.end();
    }

    /**
     * A: x <= 0, B: x - y < 1, C: y != 0, with all that can be told: two decisions, a page, a suite,
     * recorded vectors, and a text that is a decision. A and not B is not feasible for y >= 0.
     */
    private static MaskedCauses rich() {
        MaskedCauses m = new MaskedCauses();
        m.input(0, 2);
        m.input(0, 1);
        m.condition(0, 0, -1, 0);
        m.condition(1, 0, 1, 1);
        m.condition(3, 1, -1, 0);
        Checks.decide(m, "A&B", true);
        Checks.decide(m, "!(B|C)", false);
        m.show(1);
        m.suite(0, 1);
        m.keep(0, 0, 0);
        m.keep(2, 0, 0);
        m.keep(1, 1, 0);
        Checks.typeAll(m, "C^!A");
        return m;
    }

    private static MaskedCauses withInputs(int count) {
        MaskedCauses m = new MaskedCauses();
        for (int i = 0; i < count; i++) {
            m.input(i - 20, i + 18);
        }
        Checks.typeAll(m, "A|");
        return m;
    }

    private static MaskedCauses withInputsAndCondition(int count) {
        MaskedCauses m = withInputs(count);
        m.condition(0, count - 1, -1, 0);
        m.type('A');
        return m;
    }

    private static MaskedCauses withEightConditions() {
        MaskedCauses m = rich();
        for (int i = 3; i < 8; i++) {
            m.condition(2, 0, -1, i);
        }
        return m;
    }

    private static MaskedCauses withFourDecisions(String text) {
        MaskedCauses m = rich();
        m.decision(true);
        Checks.decide(m, "B", false);
        Checks.typeAll(m, text);
        return m;
    }

    private static MaskedCauses withTwelveRecorded() {
        MaskedCauses m = rich();
        for (int i = 3; i < 12; i++) {
            m.keep(2, 0, 0);
        }
        return m;
    }

    private static MaskedCauses withText(String text) {
        MaskedCauses m = rich();
        m.wipe();
        Checks.typeAll(m, text);
        return m;
    }

    private static void inputState() {
        int[][] ranges = {{0, 1}, {-20, 20}, {1, 0}, {-21, 0}, {0, 21},
            {Integer.MIN_VALUE, Integer.MAX_VALUE}, {Integer.MAX_VALUE, Integer.MIN_VALUE}};
        for (int[] r : ranges) {
            String call = "input(" + r[0] + ", " + r[1] + ")";
            REFUSALS.state(call + " with 3", () -> withInputs(3), m -> m.input(r[0], r[1]));
            for (int count = 1; count <= 3; count++) {
                int inputs = count;
                REFUSALS.state(call + " with a condition and " + count,
                        () -> withInputsAndCondition(inputs), m -> m.input(r[0], r[1]));
            }
        }
    }

    private static void inputArgument() {
        for (int count = 0; count < 3; count++) {
            int inputs = count;
            for (int far : Checks.outside(-20, 20)) {
                REFUSALS.argument("input(" + far + ", 20)", () -> withInputs(inputs), m -> m.input(far, 20));
                REFUSALS.argument("input(-20, " + far + ")", () -> withInputs(inputs), m -> m.input(-20, far));
                REFUSALS.argument("input(" + far + ", " + far + ")", () -> withInputs(inputs),
                        m -> m.input(far, far));
            }
            for (int low = -19; low <= 20; low++) {
                int one = low;
                REFUSALS.argument("input(" + low + ", one less)", () -> withInputs(inputs),
                        m -> m.input(one, one - 1));
            }
            REFUSALS.argument("input(20, -20)", () -> withInputs(inputs), m -> m.input(20, -20));
        }
    }

    private static void conditionState() {
        REFUSALS.state("a ninth", EdgesOfRefusedCallsTest::withEightConditions, m -> m.condition(0, 0, -1, 0));
        REFUSALS.state("a ninth of two", EdgesOfRefusedCallsTest::withEightConditions,
                m -> m.condition(3, 1, 0, 50));
        for (int far : Checks.outside(-1, 1)) {
            REFUSALS.state("a ninth with a " + far, EdgesOfRefusedCallsTest::withEightConditions,
                    m -> m.condition(0, far, -1, 0));
            REFUSALS.state("a ninth with b " + far, EdgesOfRefusedCallsTest::withEightConditions,
                    m -> m.condition(0, 0, far, 0));
        }
        REFUSALS.state("a ninth with kind 4", EdgesOfRefusedCallsTest::withEightConditions,
                m -> m.condition(4, 0, -1, 0));
        REFUSALS.state("a ninth with k 51", EdgesOfRefusedCallsTest::withEightConditions,
                m -> m.condition(0, 0, -1, 51));
        REFUSALS.state("a ninth with a and b the same", EdgesOfRefusedCallsTest::withEightConditions,
                m -> m.condition(0, 1, 1, 0));
        REFUSALS.state("a ninth, all wrong", EdgesOfRefusedCallsTest::withEightConditions,
                m -> m.condition(-1, 2, 2, -51));
    }

    /** Index wins over all that makes an argument wrong. */
    private static void conditionIndex() {
        for (int count = 0; count <= 3; count++) {
            int inputs = count;
            for (int far : Checks.outside(0, count - 1)) {
                REFUSALS.index("a " + far + " of " + count, () -> withInputs(inputs),
                        m -> m.condition(0, far, -1, 0));
                REFUSALS.index("a " + far + " of " + count + ", kind 4", () -> withInputs(inputs),
                        m -> m.condition(4, far, -1, 0));
                REFUSALS.index("a " + far + " of " + count + ", k -51", () -> withInputs(inputs),
                        m -> m.condition(0, far, -1, -51));
                REFUSALS.index("a and b " + far + " of " + count, () -> withInputs(inputs),
                        m -> m.condition(0, far, far, 0));
            }
        }
        for (int count = 1; count <= 3; count++) {
            int inputs = count;
            for (int far : Checks.outside(-1, count - 1)) {
                REFUSALS.index("b " + far + " of " + count, () -> withInputs(inputs),
                        m -> m.condition(0, 0, far, 0));
                REFUSALS.index("b " + far + " of " + count + ", kind -1", () -> withInputs(inputs),
                        m -> m.condition(-1, 0, far, 0));
                REFUSALS.index("b " + far + " of " + count + ", k 51", () -> withInputs(inputs),
                        m -> m.condition(0, 0, far, 51));
            }
        }
        REFUSALS.index("a behind conditions", EdgesOfRefusedCallsTest::rich, m -> m.condition(0, 2, -1, 0));
        REFUSALS.index("b behind conditions", EdgesOfRefusedCallsTest::rich, m -> m.condition(0, 0, 2, 0));
    }

    private static void conditionArgument() {
        for (int far : Checks.outside(0, 3)) {
            REFUSALS.argument("kind " + far, EdgesOfRefusedCallsTest::rich, m -> m.condition(far, 0, -1, 0));
            REFUSALS.argument("kind " + far, EdgesOfRefusedCallsTest::rich, m -> m.condition(far, 1, 0, 0));
        }
        for (int far : Checks.outside(-50, 50)) {
            REFUSALS.argument("k " + far, EdgesOfRefusedCallsTest::rich, m -> m.condition(0, 0, -1, far));
            REFUSALS.argument("k " + far, EdgesOfRefusedCallsTest::rich, m -> m.condition(3, 0, 1, far));
        }
        for (int count = 1; count <= 3; count++) {
            int inputs = count;
            for (int a = 0; a < count; a++) {
                int both = a;
                REFUSALS.argument("a and b " + a + " of " + count, () -> withInputs(inputs),
                        m -> m.condition(2, both, both, 0));
            }
        }
        REFUSALS.argument("all wrong but the inputs", EdgesOfRefusedCallsTest::rich,
                m -> m.condition(4, 1, 1, 51));
    }

    private static void typeFalse() {
        int[] codes = {0, 9, 10, 31, 127, 128, 160, 255, 256 + 'A', 0x2100 + 'A', 0xFF00 + 'A', 65534, 65535};
        for (int code : codes) {
            char c = (char) code;
            REFUSALS.due("type of code " + code, false, EdgesOfRefusedCallsTest::rich, m -> m.type(c));
            REFUSALS.due("type of code " + code + " in an empty text", false, () -> withText(""), m -> m.type(c));
        }
        String[] full = {"!".repeat(39) + "A", "A^".repeat(20), " ".repeat(40)};
        for (String text : full) {
            for (char c : "A ~!\u001f\u007f".toCharArray()) {
                REFUSALS.due("type behind 40", false, () -> withText(text), m -> m.type(c));
            }
        }
    }

    private static void decisionState() {
        String[] texts = {"", "A", "A&", "&", "!(A|B)", "!".repeat(40)};
        for (String text : texts) {
            for (boolean isShort : new boolean[] {false, true}) {
                REFUSALS.state("a fifth of " + text, () -> withFourDecisions(text), m -> m.decision(isShort));
                for (int count = 0; count <= 3; count++) {
                    int inputs = count;
                    REFUSALS.state("no condition, text " + text, () -> withInputsAndText(inputs, text),
                            m -> m.decision(isShort));
                }
            }
        }
        theTextStays();
    }

    private static MaskedCauses withInputsAndText(int inputs, String text) {
        MaskedCauses m = withInputs(inputs);
        m.wipe();
        Checks.typeAll(m, text);
        return m;
    }

    private static void theTextStays() {
        MaskedCauses none = withInputsAndText(1, "!A|");
        CHECKS.state("no condition", () -> none.decision(true));
        CHECKS.due("room behind the text", true, () -> none.type('A'));
        none.condition(0, 0, -1, 0);
        CHECKS.due("the text that stayed", 0, () -> none.decision(true));
        CHECKS.due("the text that stayed", "!A|A", () -> Checks.shown(none, 0));
        MaskedCauses four = withFourDecisions("B".repeat(39));
        CHECKS.state("there are 4", () -> four.decision(false));
        CHECKS.due("the fortieth behind the text", true, () -> four.type('A'));
        CHECKS.due("no more behind it", false, () -> four.type('A'));
        CHECKS.due("the text that stayed", 40, four::wipe);
    }

    private static void indexOfDecision() {
        for (int far : Checks.outside(0, 1)) {
            REFUSALS.index("conditions(" + far + ")", EdgesOfRefusedCallsTest::rich, m -> m.conditions(far));
            REFUSALS.index("show(" + far + ")", EdgesOfRefusedCallsTest::rich, m -> m.show(far));
            REFUSALS.index("feasible(" + far + ")", EdgesOfRefusedCallsTest::rich, m -> m.feasible(far));
        }
        for (int far : Checks.outside(0, 3)) {
            REFUSALS.index("conditions(" + far + ") of 4", () -> withFourDecisions(""), m -> m.conditions(far));
            REFUSALS.index("show(" + far + ") of 4", () -> withFourDecisions(""), m -> m.show(far));
            REFUSALS.index("feasible(" + far + ") of 4", () -> withFourDecisions(""), m -> m.feasible(far));
        }
    }

    /** Index wins over state: word 1 of decision 0 is not feasible. */
    private static void vectorIndex() {
        for (int far : Checks.outside(0, 1)) {
            for (int word : new int[] {0, 1}) {
                REFUSALS.index("vector(" + far + ", " + word + ", 0)", EdgesOfRefusedCallsTest::rich,
                        m -> m.vector(far, word, 0));
                REFUSALS.index("vector(0, " + word + ", " + far + ")", EdgesOfRefusedCallsTest::rich,
                        m -> m.vector(0, word, far));
            }
        }
        for (int far : Checks.outside(0, 3)) {
            REFUSALS.index("vector(0, " + far + ", 0)", EdgesOfRefusedCallsTest::rich, m -> m.vector(0, far, 0));
            REFUSALS.index("vector(0, " + far + ", 2)", EdgesOfRefusedCallsTest::rich, m -> m.vector(0, far, 2));
        }
        noSuchInput();
    }

    private static void noSuchInput() {
        for (int count = 1; count <= 3; count++) {
            int inputs = count;
            Refusals.Maker maker = () -> {
                MaskedCauses m = withInputsAndCondition(inputs);
                m.decision(false);
                return m;
            };
            CHECKS.due("the last input of " + count, count - 21, () -> maker.make().vector(0, 1, inputs - 1));
            for (int far : Checks.outside(0, count - 1)) {
                REFUSALS.index("input " + far + " of " + count, maker, m -> m.vector(0, 1, far));
            }
        }
    }

    private static void vectorState() {
        for (int x = 0; x < 2; x++) {
            int input = x;
            REFUSALS.state("word 1", EdgesOfRefusedCallsTest::rich, m -> m.vector(0, 1, input));
        }
        // One vector alone, which gives word 63: all other words are not feasible.
        MaskedCauses one = new MaskedCauses();
        one.input(5, 5);
        for (int i = 0; i < 6; i++) {
            one.condition(0, 0, -1, 5 + i);
        }
        Checks.decide(one, "A|B|C|D|E|F", true);
        for (int word = 0; word < 63; word++) {
            int w = word;
            CHECKS.state("word " + word, () -> one.vector(0, w, 0));
        }
        CHECKS.due("word 63", 5, () -> one.vector(0, 63, 0));
    }

    private static void indexOfWord() {
        for (int far : Checks.outside(0, 1)) {
            REFUSALS.index("outcome(" + far + ", 0)", EdgesOfRefusedCallsTest::rich, m -> m.outcome(far, 0));
            REFUSALS.index("evaluated(" + far + ", 0, 0)", EdgesOfRefusedCallsTest::rich,
                    m -> m.evaluated(far, 0, 0));
        }
        for (int far : Checks.outside(0, 3)) {
            REFUSALS.index("outcome(0, " + far + ")", EdgesOfRefusedCallsTest::rich, m -> m.outcome(0, far));
            REFUSALS.index("evaluated(0, " + far + ", 0)", EdgesOfRefusedCallsTest::rich,
                    m -> m.evaluated(0, far, 0));
        }
    }

    private static void evaluatedIndex() {
        for (int far : Checks.outside(0, 1)) {
            REFUSALS.index("evaluated(0, 3, " + far + ")", EdgesOfRefusedCallsTest::rich,
                    m -> m.evaluated(0, 3, far));
            REFUSALS.index("evaluated(1, 0, " + far + ")", EdgesOfRefusedCallsTest::rich,
                    m -> m.evaluated(1, 0, far));
        }
        REFUSALS.index("evaluated, all wrong", EdgesOfRefusedCallsTest::rich, m -> m.evaluated(2, 4, 2));
    }

    private static void conditionAndCriterion() {
        for (int far : Checks.outside(0, 1)) {
            for (int criterion : new int[] {0, 2, 3, -1}) {
                REFUSALS.index("solve(" + far + ", 0, " + criterion + ")", EdgesOfRefusedCallsTest::rich,
                        m -> m.solve(far, 0, criterion));
                REFUSALS.index("solve(0, " + far + ", " + criterion + ")", EdgesOfRefusedCallsTest::rich,
                        m -> m.solve(0, far, criterion));
                REFUSALS.index("covered(" + far + ", 0, " + criterion + ")", EdgesOfRefusedCallsTest::rich,
                        m -> m.covered(far, 0, criterion));
                REFUSALS.index("covered(0, " + far + ", " + criterion + ")", EdgesOfRefusedCallsTest::rich,
                        m -> m.covered(0, far, criterion));
            }
        }
        for (int far : Checks.outside(0, 2)) {
            for (int condition = 0; condition < 2; condition++) {
                int c = condition;
                REFUSALS.argument("solve(0, " + c + ", " + far + ")", EdgesOfRefusedCallsTest::rich,
                        m -> m.solve(0, c, far));
                REFUSALS.argument("covered(0, " + c + ", " + far + ")", EdgesOfRefusedCallsTest::rich,
                        m -> m.covered(0, c, far));
            }
        }
    }

    private static void decisionAndCriterion() {
        for (int far : Checks.outside(0, 1)) {
            for (int criterion : new int[] {0, 2, 3, -1}) {
                REFUSALS.index("suite(" + far + ", " + criterion + ")", EdgesOfRefusedCallsTest::rich,
                        m -> m.suite(far, criterion));
                REFUSALS.index("least(" + far + ", " + criterion + ")", EdgesOfRefusedCallsTest::rich,
                        m -> m.least(far, criterion));
                REFUSALS.index("missing(" + far + ", " + criterion + ")", EdgesOfRefusedCallsTest::rich,
                        m -> m.missing(far, criterion));
            }
        }
        for (int far : Checks.outside(0, 2)) {
            for (int decision = 0; decision < 2; decision++) {
                int d = decision;
                REFUSALS.argument("suite(" + d + ", " + far + ")", EdgesOfRefusedCallsTest::rich,
                        m -> m.suite(d, far));
                REFUSALS.argument("least(" + d + ", " + far + ")", EdgesOfRefusedCallsTest::rich,
                        m -> m.least(d, far));
                REFUSALS.argument("missing(" + d + ", " + far + ")", EdgesOfRefusedCallsTest::rich,
                        m -> m.missing(d, far));
            }
        }
        criterionWhereNothingIsLookedFor();
    }

    /** A wrong criterion is refused also where the answer would be the same with any. */
    private static void criterionWhereNothingIsLookedFor() {
        MaskedCauses m = Checks.withSix();
        Checks.decide(m, "A|B|C|D|E", false);
        Checks.decide(m, "A&!A", false);
        for (int far : Checks.outside(0, 2)) {
            CHECKS.argument("least of five", () -> m.least(0, far));
            CHECKS.argument("least of what is not solved", () -> m.least(1, far));
            CHECKS.argument("suite of what is not solved", () -> m.suite(1, far));
            CHECKS.argument("missing of what is not solved", () -> m.missing(1, far));
            CHECKS.argument("solve of what is not solved", () -> m.solve(1, 0, far));
            CHECKS.argument("covered with nothing recorded", () -> m.covered(1, 0, far));
        }
    }

    private static void keepState() {
        int[][] vectors = {{0, 0, 0}, {2, 1, 0}, {3, 0, 0}, {0, -1, 0},
            {Integer.MIN_VALUE, Integer.MAX_VALUE, Integer.MIN_VALUE}};
        for (int[] v : vectors) {
            REFUSALS.state("a thirteenth", EdgesOfRefusedCallsTest::withTwelveRecorded,
                    m -> m.keep(v[0], v[1], v[2]));
            for (int count = 0; count <= 3; count++) {
                int inputs = count;
                REFUSALS.state("no condition", () -> withInputs(inputs), m -> m.keep(v[0], v[1], v[2]));
            }
        }
    }

    private static MaskedCauses withNarrowInputs(int count) {
        MaskedCauses m = new MaskedCauses();
        for (int i = 0; i < count; i++) {
            m.input(i + 1, i + 4);
        }
        m.condition(0, 0, -1, 2);
        Checks.decide(m, "A", true);
        m.keep(1, 2, 3);
        return m;
    }

    private static void keepArgument() {
        for (int count = 1; count <= 3; count++) {
            int inputs = count;
            for (int far : Checks.outside(1, 4)) {
                REFUSALS.argument("x " + far, () -> withNarrowInputs(inputs), m -> m.keep(far, 2, 3));
            }
            for (int far : Checks.outside(2, 5)) {
                Object want = inputs < 2 ? (Object) 2 : "throws.IllegalArgumentException";
                CHECKS.due("y " + far + " of " + count, want, () -> withNarrowInputs(inputs).keep(4, far, 6));
            }
            for (int far : Checks.outside(3, 6)) {
                Object want = inputs < 3 ? (Object) 2 : "throws.IllegalArgumentException";
                CHECKS.due("z " + far + " of " + count, want, () -> withNarrowInputs(inputs).keep(4, 5, far));
            }
        }
        for (int far : Checks.outside(2, 5)) {
            REFUSALS.argument("y " + far, () -> withNarrowInputs(2), m -> m.keep(4, far, 6));
        }
        for (int far : Checks.outside(3, 6)) {
            REFUSALS.argument("z " + far, () -> withNarrowInputs(3), m -> m.keep(4, 5, far));
        }
    }

    private static void whileThereIsNothing() {
        REFUSALS.index("conditions", MaskedCauses::new, m -> m.conditions(0));
        REFUSALS.index("show", MaskedCauses::new, m -> m.show(0));
        REFUSALS.index("feasible", MaskedCauses::new, m -> m.feasible(0));
        REFUSALS.index("vector", MaskedCauses::new, m -> m.vector(0, 0, 0));
        REFUSALS.index("outcome", MaskedCauses::new, m -> m.outcome(0, 0));
        REFUSALS.index("evaluated", MaskedCauses::new, m -> m.evaluated(0, 0, 0));
        REFUSALS.index("solve", MaskedCauses::new, m -> m.solve(0, 0, 0));
        REFUSALS.index("solve, wrong criterion", MaskedCauses::new, m -> m.solve(0, 0, 3));
        REFUSALS.index("suite", MaskedCauses::new, m -> m.suite(0, 0));
        REFUSALS.index("suite, wrong criterion", MaskedCauses::new, m -> m.suite(0, 3));
        REFUSALS.index("least", MaskedCauses::new, m -> m.least(0, 0));
        REFUSALS.index("least, wrong criterion", MaskedCauses::new, m -> m.least(0, 3));
        REFUSALS.index("covered", MaskedCauses::new, m -> m.covered(0, 0, 0));
        REFUSALS.index("covered, wrong criterion", MaskedCauses::new, m -> m.covered(0, 0, 3));
        REFUSALS.index("missing", MaskedCauses::new, m -> m.missing(0, 0));
        REFUSALS.index("missing, wrong criterion", MaskedCauses::new, m -> m.missing(0, 3));
        REFUSALS.state("decision", MaskedCauses::new, m -> m.decision(true));
        REFUSALS.state("keep", MaskedCauses::new, m -> m.keep(0, 0, 0));
        REFUSALS.index("condition", MaskedCauses::new, m -> m.condition(0, 0, -1, 0));
    }
}
