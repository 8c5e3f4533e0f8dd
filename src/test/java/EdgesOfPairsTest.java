/** The edges of the three criteria, the pair, the suite and the least number: promises 13 to 16. */
public final class EdgesOfPairsTest {
    private static final Checks CHECKS = new Checks();
    private static final int NONE = MaskedCauses.NONE;
    private static final int UNIQUE = 0;
    private static final int MASKING = 1;
    private static final int COUPLED = 2;
    /** Decisions that are A, whatever B, or B and C, are. */
    private static final String ONLY_A = "A|B&!B";
    private static final String ONLY_A_OF_THREE = "A|B&!B|C&!C";
    private static final int[][] DIFFERENCES = {
        {0, NONE}, {1, NONE}, {2, NONE}, {0, 1}, {1, 0}, {0, 2}, {2, 0}, {1, 2}, {2, 1}
    };

    public static void main(String[] args) {
        CHECKS.sentence("Two words SHOW condition i if both are feasible", EdgesOfPairsTest::bothFeasible);
        CHECKS.sentence("it is true in the one and false in the other", EdgesOfPairsTest::trueAndFalse);
        CHECKS.sentence("their outcomes differ", EdgesOfPairsTest::outcomesDiffer);
        CHECKS.sentence("and evaluate it", EdgesOfPairsTest::bothEvaluate);
        CHECKS.sentence("0 (UNIQUE): any other condition .. has the same truth in both",
                EdgesOfPairsTest::uniqueOthers);
        CHECKS.sentence("0 (UNIQUE): any other condition that both evaluate",
                EdgesOfPairsTest::uniqueOthersThatBothEvaluate);
        CHECKS.sentence("1 (MASKING): each of the two words has the other outcome",
                EdgesOfPairsTest::maskingEachOfTheTwo);
        CHECKS.sentence("1 (MASKING): with condition i turned round alone",
                EdgesOfPairsTest::maskingTurnedWord);
        CHECKS.sentence("2 (COUPLED): as 1", EdgesOfPairsTest::coupledAsMasking);
        CHECKS.sentence("2 (COUPLED): that has no input of condition i in its D",
                EdgesOfPairsTest::coupledInputs);
        CHECKS.sentence("2 (COUPLED): any other condition that both evaluate",
                EdgesOfPairsTest::coupledOthersThatBothEvaluate);
        CHECKS.sentence("THE PAIR .. whose lesser word is least", EdgesOfPairsTest::leastLesser);
        CHECKS.sentence("of several the one whose greater word is", EdgesOfPairsTest::leastGreater);
        CHECKS.sentence("13: 100 * lesser word + greater word; NONE if it is not solved",
                EdgesOfPairsTest::pairsAsNumbers);
        CHECKS.sentence("all sets of feasible words of two conditions", EdgesOfPairsTest::allSetsOfWords);
        CHECKS.sentence("THE SUITE: for each of its conditions in turn that is solved",
                EdgesOfPairsTest::suiteInTurn);
        CHECKS.sentence("and not shown by two words in the suite", EdgesOfPairsTest::suiteShownAlready);
        CHECKS.sentence("the lesser first, are added as far as they are not in it",
                EdgesOfPairsTest::suiteLesserFirst);
        CHECKS.sentence("14: How many words the suite has: none to twelve", EdgesOfPairsTest::suiteSizes);
        CHECKS.sentence("15: Word i of the suite .. NONE if there is none such", EdgesOfPairsTest::suiteAt);
        CHECKS.sentence("15: the suite that was asked for last", EdgesOfPairsTest::suiteAskedForLast);
        CHECKS.sentence("16: The least number of words: none to eight", EdgesOfPairsTest::leastNumbers);
        CHECKS.sentence("16: NONE if the decision has more than 4 conditions",
                EdgesOfPairsTest::leastOfMoreThanFour);
        CHECKS.end();
    }

    /**
     * An object on which just these words of A, B .. are feasible, at most three: input 0 is 0 for
     * the first, 1 for the second, 2 for the third, and each condition is true for some of these.
     */
    private static MaskedCauses withWords(int conditions, int... words) {
        MaskedCauses m = new MaskedCauses();
        m.input(0, words.length - 1);
        for (int i = 0; i < conditions; i++) {
            m.condition(kindFor(i, words), 0, -1, limitFor(i, words));
        }
        return m;
    }

    /** For which numbers of input 0 condition i is true. */
    private static int numbersFor(int i, int[] words) {
        int numbers = 0;
        for (int x = 0; x < words.length; x++) {
            numbers |= (words[x] >> i & 1) << x;
        }
        return numbers;
    }

    /** Equal to the only number, or to none; other than the only one that is not, or than none. */
    private static int kindFor(int i, int[] words) {
        return Integer.bitCount(numbersFor(i, words)) <= 1 ? 2 : 3;
    }

    private static int limitFor(int i, int[] words) {
        int numbers = numbersFor(i, words);
        int others = (1 << words.length) - 1 & ~numbers;
        int named = Integer.bitCount(numbers) <= 1 ? numbers : others;
        return named == 0 ? 50 : Integer.numberOfTrailingZeros(named);
    }

    private static MaskedCauses decided(String text, boolean isShort, int conditions, int... words) {
        MaskedCauses m = withWords(conditions, words);
        Checks.decide(m, text, isShort);
        return m;
    }

    /** The pairs of condition A for the three criteria. */
    private static String pairsOfA(MaskedCauses m) {
        return m.solve(0, 0, UNIQUE) + " " + m.solve(0, 0, MASKING) + " " + m.solve(0, 0, COUPLED);
    }

    private static void full(String want, String text, int conditions, int... words) {
        CHECKS.due("A in " + text, want, () -> pairsOfA(decided(text, false, conditions, words)));
    }

    private static void inShort(String want, String text, int conditions, int... words) {
        CHECKS.due("A in short " + text, want, () -> pairsOfA(decided(text, true, conditions, words)));
    }

    private static void bothFeasible() {
        full("-1 -1 -1", "A", 1, 0);
        full("-1 -1 -1", "A", 1, 1);
        full("1 1 1", "A", 1, 0, 1);
        full("1 1 1", "A", 1, 1, 0);
        full("203 203 203", "A&B", 2, 0, 2, 3);
        full("-1 -1 -1", "A&B", 2, 0, 1, 2);
        full("-1 -1 -1", "A&B", 2, 0, 1, 3);
        full("1 1 1", "A|B", 2, 3, 1, 0);
        full("-1 -1 -1", "A|B", 2, 1, 2, 3);
        full("-1 -1 -1", "A|B", 2, 0, 2, 3);
        full("203 203 203", "A^B", 2, 1, 2, 3);
        full("1 1 1", "A^B", 2, 0, 1, 3);
    }

    private static void trueAndFalse() {
        // Words 0 and 2 have different outcomes, and both turn with A, which is false in both.
        full("203 203 203", "A^B", 2, 0, 2, 3);
        full("-1 -1 -1", "A^B", 2, 0, 2);
        full("-1 -1 -1", "A^B", 2, 1, 3);
    }

    private static void outcomesDiffer() {
        // A is different in words 0 and 3, and both turn with A, but they have one outcome.
        full("-1 -1 -1", "A^B", 2, 0, 3);
        full("-1 -1 -1", "A^B", 2, 1, 2);
        full("-1 -1 -1", "A|B", 2, 2, 3);
        full("-1 -1 -1", "A&B", 2, 0, 1);
        full("-1 -1 -1", "A&!A", 1, 0, 1);
        full("-1 -1 -1", "A|!A", 1, 0, 1);
    }

    private static void bothEvaluate() {
        // B|A: A is evaluated by the words 0 and 1 alone.
        inShort("1 1 1", "B|A", 2, 0, 1, 3);
        inShort("-1 -1 -1", "B|A", 2, 0, 3);
        inShort("-1 -1 -1", "B|A", 2, 1, 2);
        inShort("203 203 203", "B&A", 2, 1, 2, 3);
        inShort("-1 -1 -1", "B&A", 2, 0, 3);
        inShort("-1 -1 -1", "B&!B&A|B", 2, 0, 1, 3);
    }

    private static void uniqueOthers() {
        full("-1 3 3", ONLY_A, 2, 0, 3);
        full("-1 102 102", ONLY_A, 2, 1, 2);
        full("203 3 3", ONLY_A, 2, 0, 2, 3);
        full("-1 7 7", ONLY_A_OF_THREE, 3, 0, 7);
        full("-1 5 5", ONLY_A_OF_THREE, 3, 0, 5);
        full("607 7 7", ONLY_A_OF_THREE, 3, 0, 6, 7);
        full("-1 -1 -1", "A&B", 2, 0, 3);
    }

    private static void uniqueOthersThatBothEvaluate() {
        // One of the two does not evaluate B.
        inShort("3 3 3", ONLY_A, 2, 0, 3);
        inShort("3 -1 -1", "A&B", 2, 0, 3);
        inShort("3 -1 -1", "A|B", 2, 0, 3);
        // Neither evaluates B, since C is false.
        inShort("3 3 3", "A^C&B", 3, 0, 3);
        full("-1 3 3", "A^C&B", 3, 0, 3);
        // Both evaluate B, which stands first.
        inShort("-1 3 3", "B&!B|A", 2, 0, 3);
    }

    private static void maskingEachOfTheTwo() {
        // The outcomes differ, but only one of the two turns with A, or neither.
        full("-1 -1 -1", "A|B", 2, 0, 3);
        full("-1 -1 -1", "A&B", 2, 0, 3);
        full("-1 -1 -1", "A&!B", 2, 1, 2);
        full("-1 -1 -1", "!A&B", 2, 1, 2);
        full("-1 -1 -1", "B|A&!A", 2, 0, 3);
        full("-1 3 3", ONLY_A, 2, 0, 3);
    }

    private static void maskingTurnedWord() {
        // Turned round, word 0 is 1 and word 3 is 2: neither is feasible, nor need it be.
        full("-1 3 3", ONLY_A, 2, 0, 3);
        full("-1 102 102", "A&B^A&!B", 2, 1, 2);
        // Only A is turned, not what is true with it: all three together would change nothing.
        full("-1 7 7", "A^B&!B^C&!C", 3, 0, 7);
        full("-1 304 304", "A^B&!B^C&!C", 3, 3, 4);
    }

    private static void coupledAsMasking() {
        inShort("3 -1 -1", "A&B", 2, 0, 3);
        inShort("3 -1 -1", "A|B", 2, 0, 3);
        full("-1 -1 -1", "A&B", 2, 0, 3);
        MaskedCauses m = Checks.withThreeFree();
        Checks.decide(m, "A&B", true);
        m.keep(0, 0, 0);
        m.keep(1, 1, 0);
        CHECKS.due("words 0 and 3 by unique", true, () -> m.covered(0, 0, UNIQUE));
        CHECKS.due("words 0 and 3 by coupled", false, () -> m.covered(0, 0, COUPLED));
        m.keep(0, 1, 0);
        CHECKS.due("words 2 and 3 by coupled", true, () -> m.covered(0, 0, COUPLED));
    }

    private static boolean haveOneInCommon(int[] d, int[] e) {
        for (int input : d) {
            for (int other : e) {
                if (input == other && input != NONE) {
                    return true;
                }
            }
        }
        return false;
    }

    /** A and B are both true for the vector 1, 3, 9 and both false for 0, 0, 0, whatever their D is. */
    private static MaskedCauses withTwoVectors(String text, boolean isShort, int[] ofA, int[] ofB) {
        MaskedCauses m = new MaskedCauses();
        for (int i = 0; i < 3; i++) {
            m.input(0, 9);
        }
        int[] vector = {1, 3, 9};
        for (int[] d : new int[][] {ofA, ofB}) {
            m.condition(2, d[0], d[1], vector[d[0]] - (d[1] == NONE ? 0 : vector[d[1]]));
        }
        Checks.decide(m, text, isShort);
        m.keep(0, 0, 0);
        m.keep(1, 3, 9);
        return m;
    }

    private static void coupledInputs() {
        for (int[] a : DIFFERENCES) {
            for (int[] b : DIFFERENCES) {
                MaskedCauses m = withTwoVectors(ONLY_A, false, a, b);
                String what = "A of " + a[0] + " and " + a[1] + ", B of " + b[0] + " and " + b[1];
                CHECKS.due(what + " by unique", false, () -> m.covered(0, 0, UNIQUE));
                CHECKS.due(what + " by masking", true, () -> m.covered(0, 0, MASKING));
                CHECKS.due(what + " by coupled", haveOneInCommon(a, b), () -> m.covered(0, 0, COUPLED));
            }
        }
        MaskedCauses m = Checks.withTwoCoupled();
        CHECKS.due("C of y by masking, A of x differs", 5, () -> m.solve(0, 2, MASKING));
        CHECKS.due("C of y by coupled, B of y - x differs", 6, () -> m.solve(0, 2, COUPLED));
    }

    private static void coupledOthersThatBothEvaluate() {
        int[] x = {0, NONE};
        int[] y = {1, NONE};
        CHECKS.due("B is not evaluated by one of them", true,
                () -> withTwoVectors(ONLY_A, true, x, y).covered(0, 0, COUPLED));
        CHECKS.due("B is evaluated by both", false,
                () -> withTwoVectors("B&!B|A", true, x, y).covered(0, 0, COUPLED));
        CHECKS.due("B is evaluated by both, not short", false,
                () -> withTwoVectors(ONLY_A, false, x, y).covered(0, 0, COUPLED));
    }

    private static void leastLesser() {
        full("405 304 304", ONLY_A_OF_THREE, 3, 3, 4, 5);
        full("405 304 304", ONLY_A_OF_THREE, 3, 5, 4, 3);
        full("-1 207 207", ONLY_A_OF_THREE, 3, 2, 4, 7);
        full("-1 207 207", ONLY_A_OF_THREE, 3, 7, 4, 2);
        full("-1 5 5", ONLY_A_OF_THREE, 3, 5, 6, 0);
        full("203 203 203", "A^B", 2, 3, 2, 1);
        MaskedCauses m = Checks.withThreeFree();
        Checks.decide(m, "A&(B|C)", false);
        CHECKS.due("of 2 3, 4 5 and 6 7", 203, () -> m.solve(0, 0, UNIQUE));
        CHECKS.due("of 2 3, 2 5, 2 7 and others", 203, () -> m.solve(0, 0, MASKING));
    }

    private static void leastGreater() {
        full("-1 3 3", ONLY_A_OF_THREE, 3, 0, 3, 7);
        full("-1 3 3", ONLY_A_OF_THREE, 3, 7, 3, 0);
        full("1 1 1", ONLY_A_OF_THREE, 3, 7, 0, 1);
        full("-1 104 104", ONLY_A_OF_THREE, 3, 1, 6, 4);
        // In a short decision it can be so for UNIQUE too: word 0 evaluates A alone.
        MaskedCauses m = Checks.withThreeFree();
        Checks.decide(m, "A&(B|C)", true);
        CHECKS.due("of 0 3, 0 5, 0 7 and others", 3, () -> m.solve(0, 0, UNIQUE));
    }

    private static void pairsAsNumbers() {
        for (int i = 0; i < 6; i++) {
            int condition = i;
            int without = 63 - (1 << i);
            for (int criterion = UNIQUE; criterion <= COUPLED; criterion++) {
                int c = criterion;
                CHECKS.due("the greatest words, condition " + i, 100 * without + 63,
                        () -> decided("A&B&C&D&E&F", false, 6, without, 63).solve(0, condition, c));
                CHECKS.due("the least words, condition " + i, 1 << i,
                        () -> decided("A|B|C|D|E|F", true, 6, 0, 1 << condition).solve(0, condition, c));
                CHECKS.due("not solved, condition " + i, -1,
                        () -> decided("A|B|C|D|E|F", true, 6, 63).solve(0, condition, c));
            }
        }
        CHECKS.due("62 and 63", 6263, () -> decided("A&B&C&D&E&F", false, 6, 62, 63).solve(0, 0, UNIQUE));
        CHECKS.due("0 and 63", 63,
                () -> decided("A|B&C&D&E&F&!B", false, 6, 63, 0).solve(0, 0, MASKING));
    }

    /** One to three feasible words of the four, with decisions of many kinds, compared with the model. */
    private static void allSetsOfWords() {
        String[] texts = {"A&B", "A|B", "A^B", "A&!B", "!A|B", "B&A", "B|A", ONLY_A, "B&!B|A", "A&!A|B",
            "A&B|!A&!B", "A&!A|B&!B", "!(A&!(B|A))^B"};
        for (String text : texts) {
            for (int set = 1; set < 15; set++) {
                compare(text, set, false);
                compare(text, set, true);
            }
        }
    }

    private static void compare(String text, int set, boolean isShort) {
        int[] words = new int[Integer.bitCount(set)];
        int count = 0;
        for (int word = 0; word < 4; word++) {
            if ((set >> word & 1) == 1) {
                words[count++] = word;
            }
        }
        MaskedCauses m = decided(text, isShort, 2, words);
        Model model = modelOf(text, isShort, words);
        for (int criterion = UNIQUE; criterion <= COUPLED; criterion++) {
            int c = criterion;
            String what = text + " with words " + set + " by " + c;
            CHECKS.due("A in " + what, model.solve(0, 0, c), () -> m.solve(0, 0, c));
            CHECKS.due("B in " + what, model.solve(0, 1, c), () -> m.solve(0, 1, c));
            CHECKS.due("suite of " + what, model.suite(0, c), () -> m.suite(0, c));
            for (int i = -1; i < 5; i++) {
                int place = i;
                CHECKS.due("suiteAt of " + what, model.suiteAt(i), () -> m.suiteAt(place));
            }
            CHECKS.due("least of " + what, model.least(0, c), () -> m.least(0, c));
            CHECKS.due("missing of " + what, model.missing(0, c), () -> m.missing(0, c));
        }
    }

    private static Model modelOf(String text, boolean isShort, int[] words) {
        Model model = new Model();
        model.input(0, words.length - 1);
        for (int i = 0; i < 2; i++) {
            model.condition(kindFor(i, words), 0, -1, limitFor(i, words));
        }
        for (char c : text.toCharArray()) {
            model.type(c);
        }
        model.decision(isShort);
        return model;
    }

    private static void suite(String want, String text, boolean isShort, int criterion) {
        MaskedCauses m = Checks.withThreeFree();
        Checks.decide(m, text, isShort);
        CHECKS.due("suite of " + text, want, () -> Checks.suite(m, 0, criterion));
    }

    private static void suiteInTurn() {
        for (int criterion = UNIQUE; criterion <= COUPLED; criterion++) {
            suite("0 1 2", "A|B", false, criterion);
            suite("0 1 2", "B|A", false, criterion);
            suite("0 1 2 4", "C^B^A", false, criterion);
            suite("0 2", "A&!A|B", false, criterion);
            suite("0 1", "A|B&!B|C&!C", false, criterion);
            suite("0 1 4", "A|B&!B|C", false, criterion);
            suite("", "A&!A|B&!B", false, criterion);
        }
    }

    private static void suiteShownAlready() {
        MaskedCauses same = decided("A^B^C", false, 3, 7, 4, 0);
        CHECKS.due("C's own pair", 4, () -> same.solve(0, 2, MASKING));
        CHECKS.due("but A's pair shows B and C", "0 7", () -> Checks.suite(same, 0, MASKING));
        CHECKS.due("not by unique, where A is not solved", "0 4", () -> Checks.suite(same, 0, UNIQUE));
        MaskedCauses m = Checks.withThreeFree();
        Checks.decide(m, "C^A|B&A", true);
        Checks.decide(m, "A&B|B^C", false);
        CHECKS.due("C's own pair", 4, () -> m.solve(0, 2, UNIQUE));
        CHECKS.due("but 1 of A's and 5 of B's show C", "0 1 5 7", () -> Checks.suite(m, 0, UNIQUE));
        CHECKS.due("C's own pair", 4, () -> m.solve(1, 2, UNIQUE));
        CHECKS.due("but 6 of A's and 2 of B's show C", "6 7 0 2", () -> Checks.suite(m, 1, UNIQUE));
    }

    private static void suiteLesserFirst() {
        CHECKS.due("A is true in the lesser", "1 2",
                () -> Checks.suite(decided(ONLY_A, false, 2, 2, 1), 0, MASKING));
        // The pairs are 2 3, 1 3 and 1 5: first the greater, then the lesser is in it already.
        suite("2 3 1 5", "A&(B|C)", false, UNIQUE);
        suite("2 3 1", "A&B", false, UNIQUE);
        suite("0 3 1 5", "A&(B|C)", true, UNIQUE);
        suite("0 1 2", "A^B", false, UNIQUE);
    }

    /** A suite with two words for each of six conditions: no more can be. */
    private static MaskedCauses withSuiteOfTwelve() {
        MaskedCauses m = new MaskedCauses();
        m.input(-3, 5);
        m.input(-2, 3);
        m.input(-3, 4);
        m.condition(3, 2, -1, -1);
        m.condition(3, 0, 2, -1);
        m.condition(3, 1, -1, 2);
        m.condition(1, 0, -1, -1);
        m.condition(0, 1, -1, 2);
        m.condition(2, 0, -1, -3);
        Checks.decide(m, "C^((E&!A^B))&(E^F&(!E^B)^D)", false);
        return m;
    }

    private static void suiteSizes() {
        CHECKS.due("none", 0, () -> decided("A", true, 1, 0).suite(0, UNIQUE));
        CHECKS.due("two", 2, () -> decided("A", true, 1, 0, 1).suite(0, UNIQUE));
        CHECKS.due("three", "0 1 2", () -> Checks.suite(decided("A|B", true, 2, 0, 1, 2), 0, UNIQUE));
        MaskedCauses six = Checks.withSix();
        Checks.decide(six, "A|B|C|D|E|F", false);
        CHECKS.due("seven of six conditions", 7, () -> six.suite(0, UNIQUE));
        for (int i = 0; i < 6; i++) {
            int without = 63 - (1 << i);
            CHECKS.due("two, the greatest words, condition " + i, without + " 63",
                    () -> Checks.suite(decided("A&B&C&D&E&F", true, 6, 63, without), 0, UNIQUE));
        }
        MaskedCauses m = withSuiteOfTwelve();
        CHECKS.due("twelve", 12, () -> m.suite(0, COUPLED));
        CHECKS.due("twelve", "18 19 12 15 5 17 6 46 7 23 27 59", () -> Checks.suite(m, 0, COUPLED));
        for (int far : Checks.outside(0, 11)) {
            CHECKS.due("twelve, at " + far, NONE, () -> m.suiteAt(far));
        }
    }

    private static void suiteAt() {
        MaskedCauses m = Checks.withThreeFree();
        Checks.decide(m, "A|B", true);
        Checks.decide(m, "A&!A", true);
        for (int far : Checks.outside(0, -1)) {
            CHECKS.due("none was asked for, at " + far, NONE, () -> m.suiteAt(far));
        }
        CHECKS.due("three", 3, () -> m.suite(0, UNIQUE));
        for (int i = 0; i < 3; i++) {
            int place = i;
            CHECKS.due("three, at " + i, i, () -> m.suiteAt(place));
        }
        for (int far : Checks.outside(0, 2)) {
            CHECKS.due("three, at " + far, NONE, () -> m.suiteAt(far));
        }
        CHECKS.due("none", 0, () -> m.suite(1, UNIQUE));
        for (int far : Checks.outside(0, -1)) {
            CHECKS.due("an empty one, at " + far, NONE, () -> m.suiteAt(far));
        }
    }

    private static String asked(MaskedCauses m) {
        StringBuilder words = new StringBuilder();
        for (int i = 0; i < 12 && m.suiteAt(i) != NONE; i++) {
            words.append(i == 0 ? "" : " ").append(m.suiteAt(i));
        }
        return words.toString();
    }

    private static void suiteAskedForLast() {
        MaskedCauses m = Checks.withTwoCoupled();
        Checks.decide(m, "A", false);
        m.suite(0, MASKING);
        CHECKS.due("masking", "2 3 1 0 5", () -> asked(m));
        m.suite(0, UNIQUE);
        CHECKS.due("a shorter one", "2 3 1 5", () -> asked(m));
        m.suite(1, UNIQUE);
        CHECKS.due("of another decision", "0 1", () -> asked(m));
        m.suite(0, COUPLED);
        CHECKS.due("a longer one", "2 3 1 0 6", () -> asked(m));
        m.suite(0, COUPLED);
        CHECKS.due("the same again", "2 3 1 0 6", () -> asked(m));
        CHECKS.argument("a refused one", () -> m.suite(1, 3));
        CHECKS.index("a refused one", () -> m.suite(2, 0));
        CHECKS.due("a refused one is not asked for", "2 3 1 0 6", () -> asked(m));
        m.solve(0, 0, UNIQUE);
        m.least(0, UNIQUE);
        m.least(1, UNIQUE);
        m.missing(0, UNIQUE);
        m.covered(0, 0, UNIQUE);
        m.keep(0, 0, 0);
        m.forget();
        m.show(0);
        m.wipe();
        Checks.decide(m, "A|B", true);
        Checks.decide(m, "A|", true);
        CHECKS.due("other calls leave it", "2 3 1 0 6", () -> asked(m));
    }

    private static void least(int want, String text, boolean isShort, int criterion) {
        MaskedCauses m = Checks.withThreeFree();
        Checks.decide(m, text, isShort);
        CHECKS.due("least of " + text, want, () -> m.least(0, criterion));
    }

    private static void leastNumbers() {
        for (int criterion = UNIQUE; criterion <= COUPLED; criterion++) {
            int c = criterion;
            CHECKS.due("one vector", 0, () -> decided("A|B", true, 2, 1).least(0, c));
            least(0, "A&!A", false, c);
            least(2, "A", true, c);
            least(2, "A|B&!B", false, c);
            least(3, "A|B", false, c);
            least(3, "A^B", false, c);
            least(4, "A&(B|C)", false, c);
            // Words 0 and 7 show all three, if others may change too.
            least(c == MASKING ? 2 : 4, "A^B^C", true, c);
        }
        CHECKS.due("one pair for all", 2, () -> decided("A^B^C", false, 3, 7, 4, 0).least(0, MASKING));
        CHECKS.due("words that are not feasible do not count", 2,
                () -> decided("A|B", false, 2, 0, 2, 3).least(0, UNIQUE));
        MaskedCauses coupled = Checks.withTwoCoupled();
        CHECKS.due("the suite has five", 5, () -> coupled.suite(0, MASKING));
        CHECKS.due("four are enough", 4, () -> coupled.least(0, MASKING));
        leastOfFour();
    }

    /** Four conditions whose pairs have no word in common: no more than eight words can be needed. */
    private static void leastOfFour() {
        MaskedCauses m = new MaskedCauses();
        m.input(-3, 4);
        m.input(-3, 1);
        m.input(-3, 4);
        m.condition(0, 1, 2, 0);
        m.condition(1, 1, -1, 1);
        m.condition(2, 2, 1, -1);
        m.condition(1, 2, -1, -1);
        Checks.decide(m, "(!(A)&B|!(C)^(B&D&B))&C|A&(D^!C)", false);
        CHECKS.due("four conditions", 4, () -> m.conditions(0));
        CHECKS.due("eight", 8, () -> m.least(0, UNIQUE));
    }

    private static void leastOfMoreThanFour() {
        String[] texts = {"A", "A|B", "A|B|C", "A|B|C|D", "A|B|C|D|E", "A|B|C|D|E|F"};
        for (int n = 1; n <= 6; n++) {
            MaskedCauses m = Checks.withSix();
            Checks.decide(m, texts[n - 1], false);
            MaskedCauses unsolved = decided(texts[n - 1], false, n, 0);
            for (int criterion = UNIQUE; criterion <= COUPLED; criterion++) {
                int c = criterion;
                CHECKS.due("least of " + n, n > 4 ? NONE : n + 1, () -> m.least(0, c));
                CHECKS.due("least of " + n + ", none solved", n > 4 ? NONE : 0, () -> unsolved.least(0, c));
            }
        }
        MaskedCauses m = Checks.withEight();
        Checks.decide(m, "E|F|G|H", false);
        CHECKS.due("four of the last letters", true, () -> m.least(0, UNIQUE) != NONE);
    }
}
