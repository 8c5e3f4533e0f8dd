/** The edges of recorded vectors and of what they show: "Terms", and promises 17 to 20. */
public final class EdgesOfRecordsTest {
    private static final Checks CHECKS = new Checks();
    private static final int NONE = MaskedCauses.NONE;

    public static void main(String[] args) {
        CHECKS.sentence("RECORDED vectors, at most 12", EdgesOfRecordsTest::twelve);
        CHECKS.sentence("17: Records a vector: how many are recorded", EdgesOfRecordsTest::corners);
        CHECKS.sentence("17: numbers for inputs that there are not don't matter",
                EdgesOfRecordsTest::numbersThatDoNotMatter);
        CHECKS.sentence("17: IllegalState: .. no condition", EdgesOfRecordsTest::firstCondition);
        CHECKS.sentence("17: IllegalArgument: it is out of range", EdgesOfRecordsTest::outOfRange);
        CHECKS.sentence("18: No vector is recorded any more; how many there were",
                EdgesOfRecordsTest::forgotten);
        CHECKS.sentence("19: the words that two recorded vectors give", EdgesOfRecordsTest::twoOfTwelve);
        CHECKS.sentence("19: two: not none, and not one", EdgesOfRecordsTest::noneAndOne);
        CHECKS.sentence("19: show a condition: not only by its pair", EdgesOfRecordsTest::anyTwoThatShow);
        CHECKS.sentence("19: the words that two recorded vectors give: up to the greatest",
                EdgesOfRecordsTest::greatestWords);
        CHECKS.sentence("19: of a decision, also one made later", EdgesOfRecordsTest::decisionsMadeLater);
        CHECKS.sentence("20: The first condition .. not covered", EdgesOfRecordsTest::firstOfSix);
        CHECKS.sentence("20: that is solved", EdgesOfRecordsTest::onlySolved);
        CHECKS.sentence("20: NONE if there is none", EdgesOfRecordsTest::noneMissing);
        CHECKS.end();
    }

    private static void twelve() {
        MaskedCauses m = Checks.withThreeFree();
        Checks.decide(m, "A", true);
        for (int turn = 0; turn < 3; turn++) {
            for (int i = 1; i <= 11; i++) {
                CHECKS.due("the same one", i, () -> m.keep(0, 0, 0));
            }
            CHECKS.due("not yet covered", false, () -> m.covered(0, 0, 0));
            CHECKS.due("the twelfth", 12, () -> m.keep(1, 0, 0));
            CHECKS.due("covered by the twelfth", true, () -> m.covered(0, 0, 0));
            CHECKS.state("the thirteenth", () -> m.keep(0, 1, 0));
            CHECKS.state("the fourteenth", () -> m.keep(1, 1, 1));
            CHECKS.due("still covered", true, () -> m.covered(0, 0, 0));
            CHECKS.due("how many there were", 12, m::forget);
        }
    }

    /** The least and the greatest number of each input, in all combinations. */
    private static void corners() {
        for (int[] r : new int[][] {{-20, 20}, {0, 0}, {-20, -20}, {20, 20}, {-1, 4}}) {
            MaskedCauses m = new MaskedCauses();
            for (int i = 0; i < 3; i++) {
                m.input(r[0], r[1]);
            }
            m.condition(0, 0, -1, 0);
            for (int corner = 0; corner < 8; corner++) {
                int c = corner;
                CHECKS.due("corner " + corner + " of " + r[0] + " .. " + r[1], corner + 1,
                        () -> m.keep(r[c & 1], r[c >> 1 & 1], r[c >> 2]));
            }
        }
    }

    private static void numbersThatDoNotMatter() {
        for (int far : Checks.outside(0, 1)) {
            MaskedCauses one = withInputs(1);
            CHECKS.due("y and z " + far, 1, () -> one.keep(0, far, far));
            CHECKS.due("y and z " + far, 2, () -> one.keep(1, far, far));
            CHECKS.due("covered all the same", true, () -> one.covered(0, 0, 0));
            MaskedCauses two = withInputs(2);
            CHECKS.due("z " + far, 1, () -> two.keep(0, 0, far));
            CHECKS.due("z " + far, 2, () -> two.keep(1, 1, far));
            CHECKS.due("covered all the same", true, () -> two.covered(0, 0, 0));
            CHECKS.argument("y " + far + " matters", () -> two.keep(0, far, 0));
            MaskedCauses three = withInputs(3);
            CHECKS.argument("z " + far + " matters", () -> three.keep(0, 0, far));
        }
    }

    /** A: the last input is 1. */
    private static MaskedCauses withInputs(int count) {
        MaskedCauses m = new MaskedCauses();
        for (int i = 0; i < count; i++) {
            m.input(0, 1);
        }
        m.condition(2, count - 1, -1, 1);
        Checks.decide(m, "A", true);
        return m;
    }

    private static void firstCondition() {
        MaskedCauses m = new MaskedCauses();
        CHECKS.state("no input", () -> m.keep(0, 0, 0));
        m.input(0, 1);
        CHECKS.state("an input, but no condition", () -> m.keep(0, 0, 0));
        CHECKS.state("out of range, but no condition", () -> m.keep(2, 0, 0));
        m.condition(0, 0, -1, 0);
        CHECKS.argument("out of range", () -> m.keep(2, 0, 0));
        CHECKS.due("the first", 1, () -> m.keep(0, 0, 0));
    }

    private static void outOfRange() {
        int[][] ranges = {{-20, -18}, {-1, 1}, {18, 20}};
        MaskedCauses m = new MaskedCauses();
        for (int[] r : ranges) {
            m.input(r[0], r[1]);
        }
        m.condition(0, 0, -1, 0);
        for (int far : Checks.outside(-20, -18)) {
            CHECKS.argument("x " + far, () -> m.keep(far, 0, 19));
        }
        for (int far : Checks.outside(-1, 1)) {
            CHECKS.argument("y " + far, () -> m.keep(-19, far, 19));
        }
        for (int far : Checks.outside(18, 20)) {
            CHECKS.argument("z " + far, () -> m.keep(-19, 0, far));
        }
        CHECKS.due("none of them was recorded", 1, () -> m.keep(-20, -1, 18));
        CHECKS.due("the greatest", 2, () -> m.keep(-18, 1, 20));
    }

    private static void forgotten() {
        MaskedCauses m = Checks.withThreeFree();
        Checks.decide(m, "A|B", true);
        CHECKS.due("none at first", 0, m::forget);
        for (int count : new int[] {1, 2, 11, 12}) {
            for (int i = 0; i < count; i++) {
                m.keep(i % 2, 0, 0);
            }
            CHECKS.due("covered by " + count, count > 1, () -> m.covered(0, 0, 0));
            CHECKS.due("how many of " + count, count, m::forget);
            CHECKS.due("none then", 0, m::forget);
            CHECKS.due("not covered then", false, () -> m.covered(0, 0, 0));
            CHECKS.due("missing then", 0, () -> m.missing(0, 0));
        }
        m.keep(0, 0, 0);
        m.forget();
        CHECKS.due("counted from the first again", 1, () -> m.keep(1, 0, 0));
        CHECKS.due("the forgotten one shows nothing", false, () -> m.covered(0, 0, 0));
        forgettingLeavesTheRest();
    }

    private static void forgettingLeavesTheRest() {
        MaskedCauses m = Checks.withThreeFree();
        Checks.decide(m, "A|B", true);
        m.show(0);
        m.suite(0, 0);
        Checks.typeAll(m, "AB");
        m.keep(0, 0, 0);
        m.forget();
        CHECKS.due("the page", "A|B", () -> Checks.page(m));
        CHECKS.due("the suite", 2, () -> m.suiteAt(2));
        CHECKS.due("the text", 2, m::wipe);
        CHECKS.due("the decision", 2, () -> m.conditions(0));
    }

    /** A is shown by words 2 and 3 alone; all others that are recorded give word 0. */
    private static void twoOfTwelve() {
        for (int first = 0; first < 12; first++) {
            for (int second = 0; second < 12; second++) {
                if (first != second) {
                    MaskedCauses m = Checks.withThreeFree();
                    Checks.decide(m, "A&B", false);
                    for (int i = 0; i < 12; i++) {
                        m.keep(i == first ? 1 : 0, i == first || i == second ? 1 : 0, 0);
                    }
                    CHECKS.due("the vectors " + first + " and " + second, true, () -> m.covered(0, 0, 0));
                    CHECKS.due("B is not shown by them", false, () -> m.covered(0, 1, 0));
                    CHECKS.due("B is missing", 1, () -> m.missing(0, 0));
                }
            }
        }
    }

    private static void noneAndOne() {
        for (int criterion = 0; criterion < 3; criterion++) {
            int c = criterion;
            MaskedCauses m = Checks.withThreeFree();
            Checks.decide(m, "A", false);
            CHECKS.due("none", false, () -> m.covered(0, 0, c));
            m.keep(0, 0, 0);
            CHECKS.due("one", false, () -> m.covered(0, 0, c));
            m.keep(0, 0, 0);
            CHECKS.due("the same twice", false, () -> m.covered(0, 0, c));
            m.keep(0, 1, 1);
            CHECKS.due("another one with the same word", false, () -> m.covered(0, 0, c));
            m.keep(1, 1, 1);
            CHECKS.due("two words", true, () -> m.covered(0, 0, c));
        }
    }

    private static void anyTwoThatShow() {
        for (int criterion = 0; criterion < 3; criterion++) {
            int c = criterion;
            MaskedCauses m = Checks.withThreeFree();
            Checks.decide(m, "A^B^C", false);
            CHECKS.due("the pair is 0 and 1", 1, () -> m.solve(0, 0, c));
            m.keep(0, 1, 1);
            m.keep(1, 1, 1);
            CHECKS.due("6 and 7 show A too", true, () -> m.covered(0, 0, c));
            CHECKS.due("but not B", false, () -> m.covered(0, 1, c));
        }
        // Of a decision in which A and B are the same, no two words show A by unique.
        MaskedCauses same = new MaskedCauses();
        same.input(-20, 20);
        same.condition(0, 0, -1, 0);
        same.condition(0, 0, -1, 0);
        Checks.decide(same, "A&B", false);
        same.keep(0, 0, 0);
        same.keep(1, 0, 0);
        CHECKS.due("not solved, so not covered", false, () -> same.covered(0, 0, 0));
        // Not the vectors of the words, but others that give the same words.
        Checks.decide(same, "A", false);
        CHECKS.due("the vector of word 1", -20, () -> same.vector(1, 1, 0));
        CHECKS.due("other vectors of the same words", true, () -> same.covered(1, 0, 0));
    }

    /** All six conditions are true for x = 0, and just one of them is false for x = 1. */
    private static void greatestWords() {
        for (int left = 0; left < 6; left++) {
            MaskedCauses m = new MaskedCauses();
            m.input(0, 1);
            for (int i = 0; i < 6; i++) {
                m.condition(0, 0, -1, i == left ? 0 : 1);
            }
            Checks.decide(m, "A&B&C&D&E&F", false);
            m.keep(1, 0, 0);
            m.keep(0, 0, 0);
            for (int i = 0; i < 6; i++) {
                int condition = i;
                boolean isShown = i == left;
                for (int criterion = 0; criterion < 3; criterion++) {
                    int c = criterion;
                    CHECKS.due("condition " + i + ", shown " + left, isShown, () -> m.covered(0, condition, c));
                }
            }
            CHECKS.due("nothing is missing", NONE, () -> m.missing(0, 0));
        }
    }

    private static void decisionsMadeLater() {
        MaskedCauses m = new MaskedCauses();
        m.input(0, 9);
        m.condition(0, 0, -1, 2);
        m.keep(3, 0, 0);
        m.keep(4, 0, 0);
        Checks.decide(m, "A", true);
        m.condition(0, 0, -1, 3);
        Checks.decide(m, "B", true);
        CHECKS.due("of the first decision", false, () -> m.covered(0, 0, 0));
        CHECKS.due("of a later one with a later condition", true, () -> m.covered(1, 0, 0));
        CHECKS.due("missing of the first", 0, () -> m.missing(0, 0));
        CHECKS.due("missing of the later", NONE, () -> m.missing(1, 0));
    }

    /** Word 0 with word 1, 2, 4 .. 32 shows one condition after the other, whatever the order. */
    private static void firstOfSix() {
        int[][] vectors = {{1, 0, 0}, {2, 0, 0}, {0, 1, 0}, {0, 2, 0}, {0, 0, 1}, {0, 0, 2}};
        for (int left = 0; left < 6; left++) {
            MaskedCauses m = Checks.withSix();
            Checks.decide(m, "F|E|D|C|B|A", false);
            CHECKS.due("nothing recorded", 0, () -> m.missing(0, 0));
            m.keep(0, 0, 0);
            CHECKS.due("one recorded", 0, () -> m.missing(0, 0));
            for (int i = 5; i >= 0; i--) {
                if (i != left) {
                    m.keep(vectors[i][0], vectors[i][1], vectors[i][2]);
                }
            }
            int want = left;
            CHECKS.due("all but " + left, want, () -> m.missing(0, 0));
            m.keep(vectors[left][0], vectors[left][1], vectors[left][2]);
            CHECKS.due("all", NONE, () -> m.missing(0, 0));
            m.forget();
            CHECKS.due("all forgotten", 0, () -> m.missing(0, 0));
        }
    }

    private static void onlySolved() {
        for (int criterion = 0; criterion < 3; criterion++) {
            int c = criterion;
            MaskedCauses m = Checks.withThreeFree();
            Checks.decide(m, "A&!A|B&!B|C", false);
            Checks.decide(m, "A&!A|B", false);
            Checks.decide(m, "A|B&!B", false);
            CHECKS.due("neither A nor B", 2, () -> m.missing(0, c));
            CHECKS.due("not A", 1, () -> m.missing(1, c));
            m.keep(0, 0, 0);
            m.keep(1, 0, 0);
            CHECKS.due("A is covered, B is not solved", NONE, () -> m.missing(2, c));
        }
        // A is solved by masking alone.
        MaskedCauses m = new MaskedCauses();
        m.input(0, 1);
        m.condition(2, 0, -1, 1);
        m.condition(2, 0, -1, 1);
        Checks.decide(m, "A|B&!B", false);
        CHECKS.due("not by unique", NONE, () -> m.missing(0, 0));
        CHECKS.due("by masking", 0, () -> m.missing(0, 1));
        CHECKS.due("by coupled", 0, () -> m.missing(0, 2));
    }

    private static void noneMissing() {
        MaskedCauses one = new MaskedCauses();
        one.input(7, 7);
        one.condition(0, 0, -1, 7);
        Checks.decide(one, "A", false);
        CHECKS.due("one vector shows nothing", NONE, () -> one.missing(0, 0));
        one.keep(7, 0, 0);
        CHECKS.due("recorded or not", NONE, () -> one.missing(0, 0));
        MaskedCauses m = Checks.withThreeFree();
        Checks.decide(m, "A&B", true);
        m.keep(0, 0, 0);
        m.keep(1, 0, 0);
        m.keep(1, 1, 0);
        CHECKS.due("all by unique", NONE, () -> m.missing(0, 0));
        CHECKS.due("A is left by masking", 0, () -> m.missing(0, 1));
        CHECKS.due("A is left by coupled", 0, () -> m.missing(0, 2));
    }
}
