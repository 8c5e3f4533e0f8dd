/** Promises 13 to 16: solve, suite, suiteAt, least. */
public final class Promises13To16Test {
    private static final Checks CHECKS = new Checks();
    private static final int UNIQUE = 0;
    private static final int MASKING = 1;
    private static final int COUPLED = 2;

    public static void main(String[] args) {
        solveFreeConditions();
        solveByThreeCriteria();
        solveShort();
        solveMaskingWithCoupledInputs();
        solveTurnedWordNeedNotBeFeasible();
        solveNone();
        solveSixConditions();
        solveExceptions();
        suites();
        suiteAt();
        suiteThatThrowsChangesNothing();
        least();
        leastOfManyConditions();
        leastExceptions();
        CHECKS.end();
    }

    /** The answers of solve for all conditions of a decision. */
    private static String pairs(MaskedCauses m, int decision, int criterion) {
        StringBuilder out = new StringBuilder();
        for (int i = 0; i < m.conditions(decision); i++) {
            out.append(i == 0 ? "" : " ").append(m.solve(decision, i, criterion));
        }
        return out.toString();
    }

    private static void solveFreeConditions() {
        for (int criterion = UNIQUE; criterion <= COUPLED; criterion++) {
            int c = criterion;
            MaskedCauses m = Checks.withThreeFree();
            Checks.decide(m, "A&(B|C)", false);
            Checks.decide(m, "A|B", false);
            Checks.decide(m, "A^B^C", false);
            Checks.decide(m, "!C", false);
            CHECKS.due("13: A&(B|C) by " + c, "203 103 105", () -> pairs(m, 0, c));
            CHECKS.due("13: A|B by " + c, "1 2", () -> pairs(m, 1, c));
            CHECKS.due("13: A^B^C by " + c, "1 2 4", () -> pairs(m, 2, c));
            CHECKS.due("13: !C by " + c, "1", () -> pairs(m, 3, c));
        }
    }

    private static void solveByThreeCriteria() {
        MaskedCauses m = Checks.withTwoCoupled();
        CHECKS.due("13: unique", "203 103 105", () -> pairs(m, 0, UNIQUE));
        CHECKS.due("13: masking", "203 103 5", () -> pairs(m, 0, MASKING));
        CHECKS.due("13: coupled", "203 103 6", () -> pairs(m, 0, COUPLED));
    }

    private static void solveShort() {
        MaskedCauses m = Checks.withThreeFree();
        Checks.decide(m, "A&(B|C)", true);
        CHECKS.due("13: short, B and C are not evaluated by 0", "3 103 105", () -> pairs(m, 0, UNIQUE));
        CHECKS.due("13: short, 0 does not turn", "203 103 105", () -> pairs(m, 0, MASKING));
        CHECKS.due("13: short, 0 does not turn", "203 103 105", () -> pairs(m, 0, COUPLED));
        MaskedCauses twice = new MaskedCauses();
        twice.input(0, 1);
        twice.condition(0, 0, -1, 0);
        twice.condition(2, 0, -1, 0);
        Checks.decide(twice, "B|A", true);
        CHECKS.due("13: A is evaluated by word 0 alone", "-1 3", () -> pairs(twice, 0, UNIQUE));
        CHECKS.due("13: with the same twice nothing turns", "-1 -1", () -> pairs(twice, 0, MASKING));
    }

    /** A: x == 0, B: x != 0, C: y != 0, D: z != 0: A and B can't change alone. */
    private static void solveMaskingWithCoupledInputs() {
        MaskedCauses m = new MaskedCauses();
        for (int i = 0; i < 3; i++) {
            m.input(0, 1);
        }
        m.condition(2, 0, -1, 0);
        m.condition(3, 0, -1, 0);
        m.condition(3, 1, -1, 0);
        m.condition(3, 2, -1, 0);
        Checks.decide(m, "A&C|B&D", false);
        CHECKS.due("13: unique", "-1 -1 105 210", () -> pairs(m, 0, UNIQUE));
        CHECKS.due("13: masking", "506 910 105 210", () -> pairs(m, 0, MASKING));
        CHECKS.due("13: coupled", "506 910 105 210", () -> pairs(m, 0, COUPLED));
    }

    /** A: x != 1, B: x < 2 with x in 0 .. 2: word 0 is not feasible, but 1 and 2 turn to 0 and 3. */
    private static void solveTurnedWordNeedNotBeFeasible() {
        MaskedCauses m = new MaskedCauses();
        m.input(0, 2);
        m.condition(3, 0, -1, 1);
        m.condition(1, 0, -1, 2);
        Checks.decide(m, "!A^!B&B", false);
        CHECKS.due("13: unique", 203, () -> m.solve(0, 0, UNIQUE));
        CHECKS.due("13: masking", 102, () -> m.solve(0, 0, MASKING));
        CHECKS.due("13: coupled, both on x", 102, () -> m.solve(0, 0, COUPLED));
    }

    private static void solveNone() {
        MaskedCauses m = Checks.withThreeFree();
        Checks.decide(m, "A&!A", false);
        Checks.decide(m, "A|B&!B", false);
        for (int criterion = UNIQUE; criterion <= COUPLED; criterion++) {
            int c = criterion;
            CHECKS.due("13: one outcome", MaskedCauses.NONE, () -> m.solve(0, 0, c));
            CHECKS.due("13: B does not matter", "1 -1", () -> pairs(m, 1, c));
        }
    }

    private static void solveSixConditions() {
        MaskedCauses m = Checks.withSix();
        Checks.decide(m, "A|B|C|D|E|F", false);
        CHECKS.due("13: the greatest condition", "1 2 4 8 16 32", () -> pairs(m, 0, UNIQUE));
        CHECKS.due("14: of six conditions", "0 1 2 4 8 16 32", () -> Checks.suite(m, 0, UNIQUE));
        Checks.decide(m, "(A|B)&(C|D)&(E|F)", false);
        CHECKS.due("13: pairs of two digits", "2021 2022 1721 1725 521 537", () -> pairs(m, 1, UNIQUE));
        CHECKS.due("14: of six conditions", "20 21 22 17 25 5 37", () -> Checks.suite(m, 1, UNIQUE));
    }

    private static void solveExceptions() {
        MaskedCauses m = Checks.withThreeFree();
        Checks.decide(m, "A&C", true);
        CHECKS.argument("13: criterion 3", () -> m.solve(0, 0, 3));
        CHECKS.argument("13: criterion -1", () -> m.solve(0, 0, -1));
        CHECKS.index("13: no such condition", () -> m.solve(0, 2, 0));
        CHECKS.index("13: no such condition", () -> m.solve(0, -1, 0));
        CHECKS.index("13: no such decision", () -> m.solve(1, 0, 0));
        CHECKS.index("13: no such decision", () -> m.solve(-1, 0, 0));
        CHECKS.index("13: index wins", () -> m.solve(0, 2, 3));
        CHECKS.index("13: index wins", () -> m.solve(1, 0, 3));
    }

    private static void suites() {
        MaskedCauses m = Checks.withTwoCoupled();
        CHECKS.due("14: unique", "2 3 1 5", () -> Checks.suite(m, 0, UNIQUE));
        CHECKS.due("14: masking", "2 3 1 0 5", () -> Checks.suite(m, 0, MASKING));
        CHECKS.due("14: coupled", "2 3 1 0 6", () -> Checks.suite(m, 0, COUPLED));
        MaskedCauses free = Checks.withThreeFree();
        Checks.decide(free, "A&(B|C)", true);
        CHECKS.due("14: short", "0 3 1 5", () -> Checks.suite(free, 0, UNIQUE));
        Checks.decide(free, "A^B^C", false);
        CHECKS.due("14: A^B^C", "0 1 2 4", () -> Checks.suite(free, 1, MASKING));
        Checks.decide(free, "A&!A", true);
        CHECKS.due("14: nothing is solved", 0, () -> free.suite(2, UNIQUE));
        // B is !A, so neither can change alone.
        MaskedCauses both = new MaskedCauses();
        both.input(0, 1);
        both.condition(2, 0, -1, 0);
        both.condition(3, 0, -1, 0);
        Checks.decide(both, "A&!B", false);
        CHECKS.due("14: not solved", "", () -> Checks.suite(both, 0, UNIQUE));
        Checks.decide(both, "A|B^B", false);
        CHECKS.due("14: not B", "1 2", () -> Checks.suite(both, 1, MASKING));
        shownByOthers();
    }

    /** A and B are the same and mean C: x is 0 (word 7), 1 (word 4) or 2 (word 0). */
    private static MaskedCauses withTwoTheSame() {
        MaskedCauses m = new MaskedCauses();
        m.input(0, 2);
        m.condition(0, 0, -1, 0);
        m.condition(0, 0, -1, 0);
        m.condition(0, 0, -1, 1);
        Checks.decide(m, "A^B^C", false);
        return m;
    }

    private static void shownByOthers() {
        MaskedCauses same = withTwoTheSame();
        CHECKS.due("14: C by its own pair", "0 4", () -> Checks.suite(same, 0, UNIQUE));
        CHECKS.due("14: A's pair shows all", "0 7", () -> Checks.suite(same, 0, MASKING));
        CHECKS.due("14: C's own pair is another", "7 7 4", () -> pairs(same, 0, MASKING));
    }

    private static void suiteAt() {
        MaskedCauses m = Checks.withTwoCoupled();
        CHECKS.due("15: none was asked for", -1, () -> m.suiteAt(0));
        m.suite(0, UNIQUE);
        CHECKS.due("15: first", 2, () -> m.suiteAt(0));
        CHECKS.due("15: last", 5, () -> m.suiteAt(3));
        CHECKS.due("15: behind the last", -1, () -> m.suiteAt(4));
        CHECKS.due("15: before the first", -1, () -> m.suiteAt(-1));
        CHECKS.due("15: extremes", -1, () -> m.suiteAt(Integer.MAX_VALUE));
        CHECKS.due("15: extremes", -1, () -> m.suiteAt(Integer.MIN_VALUE));
        m.suite(0, MASKING);
        CHECKS.due("15: of the last suite", 5, () -> m.suiteAt(4));
        m.solve(0, 0, UNIQUE);
        m.least(0, UNIQUE);
        m.missing(0, UNIQUE);
        Checks.decide(m, "A&!A", true);
        CHECKS.due("15: other calls leave it", 5, () -> m.suiteAt(4));
        m.suite(1, UNIQUE);
        CHECKS.due("15: an empty suite", -1, () -> m.suiteAt(0));
    }

    private static void suiteThatThrowsChangesNothing() {
        MaskedCauses m = Checks.withTwoCoupled();
        m.suite(0, UNIQUE);
        CHECKS.argument("14: criterion 3", () -> m.suite(0, 3));
        CHECKS.argument("14: criterion -1", () -> m.suite(0, -1));
        CHECKS.index("14: no such decision", () -> m.suite(1, 0));
        CHECKS.index("14: no such decision", () -> m.suite(-1, 0));
        CHECKS.index("14: index wins", () -> m.suite(1, 3));
        CHECKS.due("15: a throw changes nothing", 5, () -> m.suiteAt(3));
    }

    private static void least() {
        MaskedCauses m = Checks.withTwoCoupled();
        CHECKS.due("16: unique", 4, () -> m.least(0, UNIQUE));
        CHECKS.due("16: masking, less than the suite", 4, () -> m.least(0, MASKING));
        CHECKS.due("16: coupled, less than the suite", 4, () -> m.least(0, COUPLED));
        Checks.decide(m, "A&!A", false);
        CHECKS.due("16: nothing is solved", 0, () -> m.least(1, UNIQUE));
        Checks.decide(m, "A|A&B&!B", false);
        CHECKS.due("16: only what is solved", 2, () -> m.least(2, UNIQUE));
        Checks.decide(m, "A", false);
        CHECKS.due("16: one condition", 2, () -> m.least(3, UNIQUE));
        MaskedCauses same = withTwoTheSame();
        CHECKS.due("16: A and B are not solved", 2, () -> same.least(0, UNIQUE));
        CHECKS.due("16: two words show all", 2, () -> same.least(0, MASKING));
    }

    /** A: x <= 5, B: y <= 5, C: z <= 5, D: x - y <= 0, E: x == 0. */
    private static void leastOfManyConditions() {
        MaskedCauses m = new MaskedCauses();
        for (int i = 0; i < 3; i++) {
            m.input(0, 10);
        }
        for (int i = 0; i < 3; i++) {
            m.condition(0, i, -1, 5);
        }
        m.condition(0, 0, 1, 0);
        m.condition(2, 0, -1, 0);
        Checks.decide(m, "A&B|C&D", false);
        Checks.decide(m, "A^B^C^D", false);
        Checks.decide(m, "A|B|C|D|E", false);
        CHECKS.due("16: four by unique", 7, () -> m.least(0, UNIQUE));
        CHECKS.due("16: four by masking", 4, () -> m.least(0, MASKING));
        CHECKS.due("16: four by coupled", 5, () -> m.least(0, COUPLED));
        CHECKS.due("16: the suite has more", 6, () -> m.suite(0, MASKING));
        CHECKS.due("16: four with ^", 5, () -> m.least(1, UNIQUE));
        CHECKS.due("16: five", MaskedCauses.NONE, () -> m.least(2, UNIQUE));
        CHECKS.due("16: five", MaskedCauses.NONE, () -> m.least(2, COUPLED));
        CHECKS.argument("16: five, wrong criterion", () -> m.least(2, 3));
    }

    private static void leastExceptions() {
        MaskedCauses m = Checks.withTwoCoupled();
        CHECKS.argument("16: criterion 3", () -> m.least(0, 3));
        CHECKS.argument("16: criterion -1", () -> m.least(0, -1));
        CHECKS.index("16: no such decision", () -> m.least(1, 0));
        CHECKS.index("16: no such decision", () -> m.least(-1, 0));
        CHECKS.index("16: index wins", () -> m.least(1, 3));
    }
}
