/** Promises 17 to 22: keep, forget, covered, missing, length, charAt. */
public final class Promises17To22Test {
    private static final Checks CHECKS = new Checks();

    public static void main(String[] args) {
        keepCounts();
        keepExceptions();
        keepWithFewInputs();
        forget();
        covered();
        coveredByCriteria();
        coveredExceptions();
        missing();
        missingOfSix();
        missingExceptions();
        page();
        CHECKS.end();
    }

    private static void keepCounts() {
        MaskedCauses m = Checks.withThreeFree();
        for (int i = 1; i <= 12; i++) {
            CHECKS.due("17: the same one counts again", i, () -> m.keep(0, 1, 0));
        }
        CHECKS.state("17: there are 12", () -> m.keep(0, 1, 0));
        CHECKS.state("17: state wins", () -> m.keep(9, 1, 0));
        CHECKS.due("17: 12", 12, m::forget);
    }

    private static void keepExceptions() {
        MaskedCauses none = new MaskedCauses();
        CHECKS.state("17: no condition, no input", () -> none.keep(0, 0, 0));
        none.input(0, 1);
        CHECKS.state("17: no condition", () -> none.keep(0, 0, 0));
        CHECKS.state("17: no condition, state wins", () -> none.keep(2, 0, 0));
        MaskedCauses m = new MaskedCauses();
        m.input(-3, 3);
        m.input(-2, 2);
        m.input(-1, 1);
        m.condition(0, 0, -1, 0);
        CHECKS.argument("17: x", () -> m.keep(4, 0, 0));
        CHECKS.argument("17: x", () -> m.keep(-4, 0, 0));
        CHECKS.argument("17: y", () -> m.keep(0, 3, 0));
        CHECKS.argument("17: y", () -> m.keep(0, -3, 0));
        CHECKS.argument("17: z", () -> m.keep(0, 0, 2));
        CHECKS.argument("17: z", () -> m.keep(0, 0, -2));
        CHECKS.argument("17: extremes", () -> m.keep(Integer.MIN_VALUE, Integer.MAX_VALUE, 0));
        CHECKS.due("17: none was recorded", 1, () -> m.keep(3, 2, 1));
        CHECKS.due("17: the least", 2, () -> m.keep(-3, -2, -1));
    }

    private static void keepWithFewInputs() {
        MaskedCauses m = new MaskedCauses();
        m.input(0, 1);
        m.condition(2, 0, -1, 1);
        CHECKS.due("17: y and z don't matter", 1, () -> m.keep(0, 99, -99));
        CHECKS.due("17: y and z don't matter", 2,
                () -> m.keep(1, Integer.MIN_VALUE, Integer.MAX_VALUE));
        Checks.decide(m, "A", true);
        CHECKS.due("19: of vectors recorded before", true, () -> m.covered(0, 0, 0));
    }

    private static void forget() {
        MaskedCauses m = Checks.withThreeFree();
        Checks.decide(m, "A", true);
        m.keep(0, 0, 0);
        m.keep(1, 0, 0);
        CHECKS.due("18: covered before", true, () -> m.covered(0, 0, 0));
        CHECKS.due("18: two", 2, m::forget);
        CHECKS.due("18: none", 0, m::forget);
        CHECKS.due("18: not covered any more", false, () -> m.covered(0, 0, 0));
        CHECKS.due("18: counts anew", 1, () -> m.keep(1, 0, 0));
        CHECKS.due("18: nothing old is left", false, () -> m.covered(0, 0, 0));
        for (int i = 2; i <= 12; i++) {
            m.keep(1, 0, 0);
        }
        CHECKS.due("18: of twelve", 12, m::forget);
        CHECKS.due("18: room again", 1, () -> m.keep(0, 0, 0));
    }

    private static void covered() {
        MaskedCauses m = Checks.withThreeFree();
        Checks.decide(m, "A&(B|C)", true);
        Checks.decide(m, "A&(B|C)", false);
        CHECKS.due("19: nothing recorded", false, () -> m.covered(0, 0, 0));
        m.keep(1, 1, 0);
        CHECKS.due("19: one is not two", false, () -> m.covered(0, 0, 0));
        m.keep(1, 1, 0);
        CHECKS.due("19: the same word twice", false, () -> m.covered(0, 0, 0));
        m.keep(0, 0, 1);
        CHECKS.due("19: B and C are not evaluated by 001", true, () -> m.covered(0, 0, 0));
        CHECKS.due("19: in full they are", false, () -> m.covered(1, 0, 0));
        CHECKS.due("19: not B", false, () -> m.covered(0, 1, 0));
        m.keep(1, 0, 0);
        CHECKS.due("19: B", true, () -> m.covered(0, 1, 0));
        CHECKS.due("19: B in full", true, () -> m.covered(1, 1, 0));
        CHECKS.due("19: not C", false, () -> m.covered(1, 2, 0));
        for (int i = 0; i < 7; i++) {
            m.keep(0, 0, 0);
        }
        m.keep(1, 0, 1);
        CHECKS.due("19: C by the twelfth", true, () -> m.covered(1, 2, 0));
    }

    private static void coveredByCriteria() {
        MaskedCauses m = Checks.withTwoCoupled();
        m.keep(1, 2, 0);
        m.keep(0, 1, 0);
        CHECKS.due("19: 0 and 5 by unique", false, () -> m.covered(0, 2, 0));
        CHECKS.due("19: 0 and 5 by masking", true, () -> m.covered(0, 2, 1));
        CHECKS.due("19: 0 and 5 by coupled", false, () -> m.covered(0, 2, 2));
        m.forget();
        m.keep(1, 1, 0);
        m.keep(1, 2, 0);
        CHECKS.due("19: 6 and 0 by unique", false, () -> m.covered(0, 2, 0));
        CHECKS.due("19: 6 and 0 by masking", true, () -> m.covered(0, 2, 1));
        CHECKS.due("19: 6 and 0 by coupled", true, () -> m.covered(0, 2, 2));
    }

    private static void coveredExceptions() {
        MaskedCauses m = Checks.withThreeFree();
        Checks.decide(m, "A&C", true);
        CHECKS.argument("19: criterion 3", () -> m.covered(0, 0, 3));
        CHECKS.argument("19: criterion -1", () -> m.covered(0, 0, -1));
        CHECKS.index("19: no such condition", () -> m.covered(0, 2, 0));
        CHECKS.index("19: no such condition", () -> m.covered(0, -1, 0));
        CHECKS.index("19: no such decision", () -> m.covered(1, 0, 0));
        CHECKS.index("19: no such decision", () -> m.covered(-1, 0, 0));
        CHECKS.index("19: index wins", () -> m.covered(0, 2, 3));
    }

    private static void missing() {
        MaskedCauses m = Checks.withThreeFree();
        Checks.decide(m, "B&!B|A&C", false);
        CHECKS.due("20: first", 0, () -> m.missing(0, 0));
        m.keep(1, 0, 1);
        m.keep(0, 0, 1);
        CHECKS.due("20: B is not solved", 2, () -> m.missing(0, 0));
        m.keep(1, 0, 0);
        for (int criterion = 0; criterion <= 2; criterion++) {
            int c = criterion;
            CHECKS.due("20: all", MaskedCauses.NONE, () -> m.missing(0, c));
        }
        m.forget();
        CHECKS.due("20: again", 0, () -> m.missing(0, 1));
        Checks.decide(m, "A&!A", false);
        CHECKS.due("20: nothing is solved", MaskedCauses.NONE, () -> m.missing(1, 0));
        Checks.decide(m, "C&(A|B)", true);
        m.keep(0, 0, 0);
        m.keep(1, 0, 1);
        CHECKS.due("20: by its number, A", 0, () -> m.missing(2, 0));
        m.keep(0, 0, 1);
        CHECKS.due("20: by its number, B", 1, () -> m.missing(2, 0));
        m.keep(0, 1, 1);
        CHECKS.due("20: C was first", -1, () -> m.missing(2, 0));
        CHECKS.due("20: but not by masking", 2, () -> m.missing(2, 1));
    }

    private static void missingOfSix() {
        MaskedCauses m = Checks.withSix();
        Checks.decide(m, "A|B|C|D|E|F", false);
        int[][] vectors = {{0, 0, 0}, {1, 0, 0}, {2, 0, 0}, {0, 1, 0}, {0, 2, 0}, {0, 0, 1}, {0, 0, 2}};
        for (int i = 0; i < vectors.length; i++) {
            int[] v = vectors[i];
            m.keep(v[0], v[1], v[2]);
            int want = i < 6 ? i : MaskedCauses.NONE;
            CHECKS.due("20: of six after " + (i + 1), want, () -> m.missing(0, 0));
        }
    }

    private static void missingExceptions() {
        MaskedCauses m = Checks.withThreeFree();
        Checks.decide(m, "A&C", true);
        CHECKS.argument("20: criterion 3", () -> m.missing(0, 3));
        CHECKS.argument("20: criterion -1", () -> m.missing(0, -1));
        CHECKS.index("20: no such decision", () -> m.missing(1, 0));
        CHECKS.index("20: no such decision", () -> m.missing(-1, 0));
        CHECKS.index("20: index wins", () -> m.missing(1, 3));
    }

    private static void page() {
        MaskedCauses m = Checks.withThreeFree();
        Checks.typeAll(m, "AB");
        CHECKS.due("21: the text is not the page", 0, m::length);
        CHECKS.due("22: the text is not the page", ' ', () -> m.charAt(0));
        m.wipe();
        Checks.decide(m, "!(A|(B))", true);
        Checks.decide(m, "C", true);
        m.show(0);
        CHECKS.due("21: length", 6, m::length);
        CHECKS.due("22: first", '!', () -> m.charAt(0));
        CHECKS.due("22: last", ')', () -> m.charAt(5));
        CHECKS.due("22: behind the last", ' ', () -> m.charAt(6));
        CHECKS.due("22: before the first", ' ', () -> m.charAt(-1));
        CHECKS.due("22: extremes", ' ', () -> m.charAt(Integer.MAX_VALUE));
        CHECKS.due("22: extremes", ' ', () -> m.charAt(Integer.MIN_VALUE));
        m.show(1);
        CHECKS.due("21: a shorter page", 1, m::length);
        CHECKS.due("22: nothing is left of the longer", ' ', () -> m.charAt(1));
    }
}
