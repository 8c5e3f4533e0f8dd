/** The edges of inputs, ranges, vectors and conditions: "Terms", and promises 1 to 3. */
public final class EdgesOfInputsTest {
    private static final Checks CHECKS = new Checks();
    private static final int NONE = MaskedCauses.NONE;

    public static void main(String[] args) {
        CHECKS.sentence("1: No inputs, conditions, decisions, text or recorded vectors; the page is empty",
                EdgesOfInputsTest::nothingAtFirst);
        CHECKS.sentence("INPUTS, at most 3", EdgesOfInputsTest::atMostThreeInputs);
        CHECKS.sentence("2: An input more: its number", EdgesOfInputsTest::inputsAfterRefusedOnes);
        CHECKS.sentence("RANGES low .. high within -20 .. 20", EdgesOfInputsTest::ranges);
        CHECKS.sentence("A VECTOR is a number for each input, within its range",
                EdgesOfInputsTest::vectorsWithinRanges);
        CHECKS.sentence("CONDITIONS, at most 8, are named A, B, .. H as they are made",
                EdgesOfInputsTest::conditionsHaveLetters);
        CHECKS.sentence("3: A condition more: its number (0 is A)", EdgesOfInputsTest::conditionNumbers);
        CHECKS.sentence("3: b is an input, or NONE for none", EdgesOfInputsTest::firstAndSecondInput);
        CHECKS.sentence("D <= k (kind 0), D < k (1), D == k (2) or D != k (3)", EdgesOfInputsTest::kinds);
        CHECKS.sentence("3: k not -50 .. 50", EdgesOfInputsTest::limitsOutOfReach);
        CHECKS.end();
    }

    private static void nothingAtFirst() {
        CHECKS.due("NONE", -1, () -> MaskedCauses.NONE);
        CHECKS.due("the page's length", 0, () -> new MaskedCauses().length());
        for (int p : new int[] {0, 1, 39, 40, -1, Integer.MIN_VALUE, Integer.MAX_VALUE}) {
            CHECKS.due("the page at " + p, ' ', () -> new MaskedCauses().charAt(p));
            CHECKS.due("the suite at " + p, NONE, () -> new MaskedCauses().suiteAt(p));
        }
        CHECKS.due("text", 0, () -> new MaskedCauses().wipe());
        CHECKS.due("recorded vectors", 0, () -> new MaskedCauses().forget());
        CHECKS.index("a decision", () -> new MaskedCauses().conditions(0));
        CHECKS.due("the first input", 0, () -> new MaskedCauses().input(0, 0));
        for (int a = 0; a < 3; a++) {
            int input = a;
            CHECKS.index("input " + a, () -> new MaskedCauses().condition(0, input, -1, 0));
        }
        nothingOfAnother();
    }

    /** An object knows nothing of what was told to another. */
    private static void nothingOfAnother() {
        MaskedCauses full = Checks.withEight();
        Checks.decide(full, "A|B", true);
        full.show(0);
        full.suite(0, 0);
        full.keep(0, 0, 0);
        full.type('A');
        MaskedCauses m = new MaskedCauses();
        CHECKS.due("all that it tells", Trace.of(new MaskedCauses()), () -> Trace.of(m));
        CHECKS.due("an input more, then a condition, then a decision", "0 0 0", () -> {
            MaskedCauses fresh = new MaskedCauses();
            return fresh.input(0, 1) + " " + fresh.condition(0, 0, -1, 0) + " "
                    + Checks.decide(fresh, "A", true);
        });
        CHECKS.due("and nothing is lost in the other", 1, full::wipe);
    }

    private static void atMostThreeInputs() {
        for (int count = 0; count <= 3; count++) {
            MaskedCauses m = new MaskedCauses();
            for (int i = 0; i < count; i++) {
                int number = i;
                CHECKS.due("input " + i, i, () -> m.input(number, number));
            }
            int beyond = count;
            CHECKS.index("a behind " + count, () -> m.condition(0, beyond, -1, 0));
            for (int i = 0; i < count; i++) {
                int number = i;
                CHECKS.due("a " + i + " of " + count, i, () -> m.condition(2, number, -1, number));
            }
        }
        MaskedCauses full = new MaskedCauses();
        full.input(1, 1);
        full.input(2, 2);
        full.input(3, 3);
        CHECKS.state("a fourth", () -> full.input(4, 4));
        CHECKS.state("a fifth", () -> full.input(4, 4));
        CHECKS.index("the fourth is none", () -> full.condition(0, 3, -1, 0));
        full.condition(2, 2, -1, 3);
        Checks.decide(full, "A", false);
        CHECKS.due("the third is still 3", 3, () -> full.vector(0, 1, 2));
        CHECKS.due("the first is still 1", 1, () -> full.vector(0, 1, 0));
    }

    private static void inputsAfterRefusedOnes() {
        MaskedCauses m = new MaskedCauses();
        for (int i = 0; i < 3; i++) {
            CHECKS.argument("21", () -> m.input(0, 21));
            int number = i;
            CHECKS.due("the number behind a refused one", i, () -> m.input(-number, number));
        }
        CHECKS.state("a fourth", () -> m.input(0, 0));
    }

    private static void ranges() {
        for (int low = -23; low <= 23; low++) {
            for (int high = -23; high <= 23; high++) {
                int l = low;
                int h = high;
                boolean isRange = -20 <= low && low <= high && high <= 20;
                Object want = isRange ? (Object) 0 : "throws.IllegalArgumentException";
                CHECKS.due("input(" + low + ", " + high + ")", want, () -> new MaskedCauses().input(l, h));
            }
        }
        for (int far : Checks.outside(-20, 20)) {
            for (int other : new int[] {-20, 0, 20, far, Integer.MIN_VALUE, Integer.MAX_VALUE}) {
                CHECKS.argument("input(" + far + ", " + other + ")", () -> new MaskedCauses().input(far, other));
                CHECKS.argument("input(" + other + ", " + far + ")", () -> new MaskedCauses().input(other, far));
            }
        }
    }

    /** Each input's least and greatest number can be given, one less or one more cannot. */
    private static void vectorsWithinRanges() {
        int[][] ranges = {{-20, -20}, {-20, 20}, {20, 20}, {-3, 4}, {0, 0}};
        for (int[] r : ranges) {
            for (int input = 0; input < 3; input++) {
                for (int number : new int[] {r[0] - 1, r[0], r[1], r[1] + 1}) {
                    boolean isIn = r[0] <= number && number <= r[1];
                    Object want = isIn ? (Object) number : "throws.IllegalStateException";
                    MaskedCauses m = withRangeAt(input, r);
                    int x = input;
                    m.condition(2, input, -1, number);
                    Checks.decide(m, "A", false);
                    CHECKS.due(number + " in " + r[0] + " .. " + r[1], want, () -> m.vector(0, 1, x));
                    CHECKS.due("words with " + number, isIn && r[0] < r[1] ? 2 : 1, () -> m.feasible(0));
                }
            }
        }
        aNumberForEachInput();
    }

    private static MaskedCauses withRangeAt(int input, int[] range) {
        MaskedCauses m = new MaskedCauses();
        for (int i = 0; i < 3; i++) {
            m.input(i == input ? range[0] : 7, i == input ? range[1] : 7);
        }
        return m;
    }

    /** Inputs that no condition of the decision asks for are there all the same. */
    private static void aNumberForEachInput() {
        MaskedCauses m = new MaskedCauses();
        m.input(-20, -19);
        m.input(20, 20);
        m.input(5, 9);
        m.condition(2, 0, -1, -19);
        Checks.decide(m, "A", true);
        CHECKS.due("first", -19, () -> m.vector(0, 1, 0));
        CHECKS.due("second", 20, () -> m.vector(0, 1, 1));
        CHECKS.due("third", 5, () -> m.vector(0, 1, 2));
    }

    private static void conditionsHaveLetters() {
        for (int count = 1; count <= 8; count++) {
            for (int letter = 0; letter < 10; letter++) {
                MaskedCauses m = withNumbers(count);
                String text = "" + (char) ('A' + letter);
                if (letter < count) {
                    CHECKS.due(text + " of " + count, 0, () -> Checks.decide(m, text, false));
                    CHECKS.due("what " + text + " means", letter, () -> m.vector(0, 1, 0));
                } else {
                    CHECKS.due(text + " of " + count, -1, () -> Checks.decide(m, text, false));
                    CHECKS.due("the same behind A|", -3, () -> Checks.decide(m, "A|" + text, false));
                }
            }
        }
        for (char c : "@abhI".toCharArray()) {
            CHECKS.due(c + " of 8", -1, () -> Checks.decide(withNumbers(8), "" + c, false));
        }
    }

    /** Condition i is: input 0 is i. */
    private static MaskedCauses withNumbers(int count) {
        MaskedCauses m = new MaskedCauses();
        m.input(-20, 20);
        for (int i = 0; i < count; i++) {
            m.condition(2, 0, -1, i);
        }
        return m;
    }

    private static void conditionNumbers() {
        MaskedCauses m = new MaskedCauses();
        m.input(0, 1);
        for (int i = 0; i < 8; i++) {
            CHECKS.index("no input", () -> m.condition(0, 1, -1, 0));
            CHECKS.argument("kind 4", () -> m.condition(4, 0, -1, 0));
            CHECKS.due("the number behind refused ones", i, () -> m.condition(0, 0, -1, 0));
        }
        CHECKS.state("a ninth", () -> m.condition(0, 0, -1, 0));
        CHECKS.state("a tenth", () -> m.condition(0, 0, -1, 0));
    }

    private static void firstAndSecondInput() {
        for (int count = 0; count <= 3; count++) {
            for (int a = -3; a <= 4; a++) {
                for (int b = -3; b <= 4; b++) {
                    pairOfInputs(count, a, b);
                }
            }
        }
    }

    private static void pairOfInputs(int count, int a, int b) {
        MaskedCauses m = new MaskedCauses();
        for (int i = 0; i < count; i++) {
            m.input(0, 9);
        }
        boolean isThere = a >= 0 && a < count && b >= NONE && b < count;
        Object want = !isThere ? "throws.IndexOutOfBoundsException"
                : a == b ? "throws.IllegalArgumentException" : (Object) 0;
        CHECKS.due("a " + a + ", b " + b + " of " + count, want, () -> m.condition(0, a, b, 0));
    }

    private static boolean holds(int kind, int d, int k) {
        return kind == 0 ? d <= k : kind == 1 ? d < k : kind == 2 ? d == k : d != k;
    }

    /** Whether condition A is true for the one vector that there is: the word that is feasible. */
    private static String truth(int kind, int a, int b, int k, int[] vector) {
        MaskedCauses m = new MaskedCauses();
        for (int number : vector) {
            m.input(number, number);
        }
        m.condition(kind, a, b, k);
        Checks.decide(m, "A", false);
        return "true " + (Checks.answer(() -> m.vector(0, 1, 0)) instanceof Integer)
                + ", false " + (Checks.answer(() -> m.vector(0, 0, 0)) instanceof Integer);
    }

    /** D is one less than k, k, and one more, for each D that there can be. */
    private static void kinds() {
        int[][] vectors = {{3, -4, 11}, {-20, 20, 0}, {20, -20, 20}, {0, 0, 0}, {-1, 0, 1}};
        for (int[] v : vectors) {
            for (int a = 0; a < 3; a++) {
                for (int b = NONE; b < 3; b++) {
                    if (a != b) {
                        kindsOf(v, a, b);
                    }
                }
            }
        }
    }

    private static void kindsOf(int[] vector, int a, int b) {
        int d = b == NONE ? vector[a] : vector[a] - vector[b];
        for (int kind = 0; kind < 4; kind++) {
            for (int k = d - 1; k <= d + 1; k++) {
                boolean isTrue = holds(kind, d, k);
                int type = kind;
                int limit = k;
                CHECKS.due("kind " + kind + ", inputs " + a + " and " + b + ", D " + d + ", k " + k,
                        "true " + isTrue + ", false " + !isTrue, () -> truth(type, a, b, limit, vector));
            }
        }
    }

    /** D is -40 .. 40, so that a k of 41 .. 50 is never met. */
    private static void limitsOutOfReach() {
        for (int k : new int[] {-50, -49, -41, -40, -39, 39, 40, 41, 49, 50}) {
            for (int kind = 0; kind < 4; kind++) {
                for (int b = NONE; b < 2; b += 2) {
                    limitOf(kind, b, k);
                }
            }
        }
    }

    private static void limitOf(int kind, int b, int k) {
        MaskedCauses m = new MaskedCauses();
        m.input(-20, 20);
        m.input(-20, 20);
        CHECKS.due("k " + k, 0, () -> m.condition(kind, 0, b, k));
        Checks.decide(m, "A", false);
        int widest = b == NONE ? 20 : 40;
        boolean isEverTrue = false;
        boolean isEverFalse = false;
        for (int d = -widest; d <= widest; d++) {
            isEverTrue |= holds(kind, d, k);
            isEverFalse |= !holds(kind, d, k);
        }
        String want = "true " + isEverTrue + ", false " + isEverFalse;
        CHECKS.due("kind " + kind + ", b " + b + ", k " + k, want,
                () -> "true " + (Checks.answer(() -> m.vector(0, 1, 0)) instanceof Integer)
                        + ", false " + (Checks.answer(() -> m.vector(0, 0, 0)) instanceof Integer));
    }
}
