/** The edges of words, vectors, outcomes, evaluation and the page: "Terms", promises 7 to 12, 21, 22. */
public final class EdgesOfWordsTest {
    private static final Checks CHECKS = new Checks();
    private static final int NONE = MaskedCauses.NONE;
    private static final String[] COUNTED = {
        "A", "A|B", "A|B|C", "A|B|C|D", "A|B|C|D|E", "A|B|C|D|E|F"
    };

    public static void main(String[] args) {
        CHECKS.sentence("7: How many conditions a decision has", EdgesOfWordsTest::oneToSixConditions);
        CHECKS.sentence("conditions are numbered 0, 1, .. in the order of their letters",
                EdgesOfWordsTest::orderOfLetters);
        CHECKS.sentence("n conditions have 2^n words", EdgesOfWordsTest::wordCounts);
        CHECKS.sentence("8: ( ) just around what is joined by | directly below ^, & or !, by ^ ..",
                EdgesOfWordsTest::bracketsJustThere);
        CHECKS.sentence("8: directly below", EdgesOfWordsTest::bracketsDirectlyBelow);
        CHECKS.sentence("8: its conditions and signs in their order", EdgesOfWordsTest::orderOnThePage);
        CHECKS.sentence("8: Writes .. instead of what was there: how many characters",
                EdgesOfWordsTest::insteadOfWhatWasThere);
        CHECKS.sentence("21, 22: how many characters the page has; a space when there is none",
                EdgesOfWordsTest::pageFromEmptyToFull);
        CHECKS.sentence("A word is FEASIBLE if some vector gives it", EdgesOfWordsTest::feasibleWords);
        CHECKS.sentence("9: from one word to all of them", EdgesOfWordsTest::feasibleCounts);
        CHECKS.sentence("9: How many words of a decision: none of one made before",
                EdgesOfWordsTest::nothingOfDecisionsBefore);
        CHECKS.sentence("ITS VECTOR is .. the one whose first input is least", EdgesOfWordsTest::leastFirst);
        CHECKS.sentence("of several whose second one is, and so on", EdgesOfWordsTest::leastSecondAndThird);
        CHECKS.sentence("The OUTCOME of a word: ! & ^ | as usual", EdgesOfWordsTest::outcomes);
        CHECKS.sentence("what stands behind & .. is not evaluated when what stands before it has decided",
                EdgesOfWordsTest::behindAnd);
        CHECKS.sentence("what stands behind .. | is not evaluated when what stands before it has decided",
                EdgesOfWordsTest::behindOr);
        CHECKS.sentence("all ones before it in that and, all xors before it in that decision",
                EdgesOfWordsTest::inThatAndInThatDecision);
        CHECKS.sentence("In a SHORT decision: ^ decides nothing", EdgesOfWordsTest::behindXor);
        CHECKS.sentence("In a SHORT decision .. of six conditions", EdgesOfWordsTest::allWordsOfSix);
        CHECKS.sentence("a condition is EVALUATED by a word if it is at one place at least",
                EdgesOfWordsTest::atOnePlaceAtLeast);
        CHECKS.sentence("never evaluated", EdgesOfWordsTest::neverEvaluated);
        CHECKS.sentence("In others all conditions are evaluated by all words", EdgesOfWordsTest::inOthers);
        CHECKS.end();
    }

    private static MaskedCauses decided(String text, boolean isShort) {
        MaskedCauses m = Checks.withEight();
        Checks.decide(m, text, isShort);
        return m;
    }

    private static void oneToSixConditions() {
        for (int n = 1; n <= 6; n++) {
            String text = COUNTED[n - 1];
            CHECKS.due("of " + text, n, () -> decided(text, true).conditions(0));
            CHECKS.due("of " + text + " twice", n, () -> decided(text + "|" + text, false).conditions(0));
        }
        CHECKS.due("one at twenty places", 1, () -> decided("H&".repeat(19) + "H", true).conditions(0));
        CHECKS.due("six letters of eight", 6, () -> decided("H|F|D|C|B|A", true).conditions(0));
    }

    /** What is first in the text is evaluated by all words in a short decision, so it can be found. */
    private static void orderOfLetters() {
        String[] texts = {"H&G&F&E&D&C", "C&H&D&G&E&F", "F&A&H&B&G&C", "B&A", "H&A", "C&B&A&H&G&F"};
        for (String text : texts) {
            String letters = text.replace("&", "");
            MaskedCauses m = decided(text, true);
            for (int i = 0; i < letters.length(); i++) {
                char letter = letters.charAt(i);
                int number = (int) letters.chars().filter(other -> other < letter).count();
                boolean isFirst = i == 0;
                CHECKS.due(letter + " of " + text + " by word 0", isFirst, () -> m.evaluated(0, 0, number));
            }
        }
        CHECKS.due("H is bit 2", "00001000", () -> outcomes(decided("H&!A&!C", false)));
        CHECKS.due("A is bit 0", "01000000", () -> outcomes(decided("!H&A&!C", false)));
        CHECKS.due("C is bit 1", "00100000", () -> outcomes(decided("!H&C&!A", false)));
    }

    private static void wordCounts() {
        for (int n = 1; n <= 6; n++) {
            MaskedCauses m = decided(COUNTED[n - 1], true);
            int words = 1 << n;
            for (int word = 0; word < words; word++) {
                int w = word;
                CHECKS.due("word " + word + " of " + n, word > 0, () -> m.outcome(0, w));
            }
            CHECKS.due("the last word of " + n, true, () -> m.evaluated(0, words - 1, 0));
            for (int far : Checks.outside(0, words - 1)) {
                CHECKS.index("outcome of word " + far, () -> m.outcome(0, far));
                CHECKS.index("evaluated of word " + far, () -> m.evaluated(0, far, 0));
                CHECKS.index("vector of word " + far, () -> m.vector(0, far, 0));
            }
        }
    }

    private static void shown(String want, String text) {
        MaskedCauses m = decided(text, true);
        CHECKS.due("count of " + text, want.length(), () -> m.show(0));
        CHECKS.due("page of " + text, want, () -> Checks.page(m));
    }

    /** Each joint below each, on both sides: with brackets only if it is said so. */
    private static void bracketsJustThere() {
        String[] parts = {"A|B", "A^B", "A&B", "!A", "A"};
        String[] signs = {"|", "^", "&"};
        for (int s = 0; s < 3; s++) {
            for (int p = 0; p < 5; p++) {
                // Below | nothing needs them, below ^ only |, below & only | and ^.
                String kept = p < s ? "(" + parts[p] + ")" : parts[p];
                for (String brackets : new String[] {"(", "((", "((("}) {
                    String typed = brackets + parts[p] + brackets.replace('(', ')');
                    shown(kept + signs[s] + "C", typed + signs[s] + "C");
                    shown("C" + signs[s] + kept, "C" + signs[s] + typed);
                    shown("C" + signs[s] + kept + signs[s] + "D", "C" + signs[s] + typed + signs[s] + "D");
                }
            }
        }
        for (int p = 0; p < 5; p++) {
            String kept = p < 3 ? "(" + parts[p] + ")" : parts[p];
            shown("!" + kept, "!(" + parts[p] + ")");
            shown("!!" + kept, "!(!((" + parts[p] + ")))");
            shown(parts[p], "(((((" + parts[p] + ")))))");
        }
    }

    private static void bracketsDirectlyBelow() {
        shown("A&(B|C)^D", "(A&(B|C))^D");
        shown("A|B&(C|D)", "A|(B&(C|D))");
        shown("!(A&(B|C))", "!(A&(B|C))");
        shown("!(A&!(B|C))", "!(A&(!(B|C)))");
        shown("!A&B", "(!A)&B");
        shown("!(A|B|C)", "!(A|(B|C))");
        shown("!(A^B^C)", "!((A^B)^C)");
        shown("(A|B^C)&D", "((A|(B^C)))&D");
        shown("((A|B)^C)&D", "((A|B)^C)&D");
        shown("!((A|B)&C)", "!((A|B)&(C))");
        shown("!((A|B)^C)", "!((A|B)^(C))");
        shown("A^(B|C)&D", "A^(((B|C))&D)");
        shown("A&(B^(C|!(D&E)))", "A&(B^(C|!(D&E)))");
    }

    private static void orderOnThePage() {
        shown("H|A|G", "H|A|G");
        shown("A&A|A&A", "A&A|A&A");
        shown("C^B^A", "C^(B^A)");
        shown("D&C&B&A", "D&(C&(B&A))");
        shown("!!H&!!!A", "!!H&!!!A");
        shown("H|G|H|F", "(H|G)|(H|F)");
    }

    private static void insteadOfWhatWasThere() {
        MaskedCauses m = Checks.withEight();
        String full = "A|".repeat(19) + "!A";
        Checks.decide(m, full, true);
        Checks.decide(m, "(((((B)))))", true);
        Checks.decide(m, "C&D", false);
        int[] turns = {0, 1, 2, 1, 0, 0, 2};
        String[] want = {full, "B", "C&D"};
        for (int d : turns) {
            CHECKS.due("how many characters of " + want[d], want[d].length(), () -> m.show(d));
            CHECKS.due("the page of " + want[d], want[d], () -> Checks.page(m));
            CHECKS.due("behind the page of " + want[d], ' ', () -> m.charAt(want[d].length()));
        }
        CHECKS.index("no such decision", () -> m.show(3));
        CHECKS.due("the page stays", "C&D", () -> Checks.page(m));
        Checks.decide(m, "H", true);
        m.wipe();
        m.forget();
        m.suite(0, 0);
        CHECKS.due("other calls leave it", "C&D", () -> Checks.page(m));
    }

    private static void pageFromEmptyToFull() {
        MaskedCauses m = Checks.withEight();
        pageIs(m, "");
        Checks.typeAll(m, "A|B");
        pageIs(m, "");
        m.decision(true);
        pageIs(m, "");
        Checks.decide(m, "!".repeat(39) + "A", true);
        Checks.decide(m, "H", true);
        m.show(1);
        pageIs(m, "!".repeat(39) + "A");
        m.show(2);
        pageIs(m, "H");
        m.show(0);
        pageIs(m, "A|B");
    }

    private static void pageIs(MaskedCauses m, String want) {
        CHECKS.due("length", want.length(), m::length);
        CHECKS.due("page", want, () -> Checks.page(m));
        for (int p : Checks.outside(0, want.length() - 1)) {
            CHECKS.due("character " + p + " of " + want, ' ', () -> m.charAt(p));
        }
    }

    private static MaskedCauses withRange(int low, int high) {
        MaskedCauses m = new MaskedCauses();
        for (int i = 0; i < 3; i++) {
            m.input(low, high);
        }
        return m;
    }

    private static String vectorOf(MaskedCauses m, int word) {
        return m.vector(0, word, 0) + " " + m.vector(0, word, 1) + " " + m.vector(0, word, 2);
    }

    /** The first and the last vector of all, and those at the other corners, count as any other. */
    private static void feasibleWords() {
        for (int corner = 0; corner < 8; corner++) {
            MaskedCauses m = withRange(-20, 20);
            StringBuilder want = new StringBuilder();
            for (int i = 0; i < 3; i++) {
                int number = (corner >> i & 1) == 1 ? 20 : -20;
                m.condition(2, i, -1, number);
                want.append(i == 0 ? "" : " ").append(number);
            }
            Checks.decide(m, "A&B&C", true);
            CHECKS.due("corner " + want, want.toString(), () -> vectorOf(m, 7));
            CHECKS.due("all words", 8, () -> m.feasible(0));
        }
        MaskedCauses never = withRange(-20, 20);
        never.condition(2, 0, 1, 41);
        never.condition(1, 0, 1, -40);
        never.condition(0, 0, -1, -21);
        Checks.decide(never, "A|B|C", false);
        CHECKS.due("never true", 1, () -> never.feasible(0));
        CHECKS.due("never true", "-20 -20 -20", () -> vectorOf(never, 0));
        for (int word = 1; word < 8; word++) {
            int w = word;
            CHECKS.state("word " + word, () -> never.vector(0, w, 0));
        }
    }

    private static void feasibleCounts() {
        for (int n = 1; n <= 6; n++) {
            String text = COUNTED[n - 1];
            MaskedCauses one = withRange(5, 5);
            MaskedCauses rising = withRange(0, 10);
            for (int i = 0; i < n; i++) {
                one.condition(0, i % 3, -1, 5);
                rising.condition(0, 0, -1, i);
            }
            Checks.decide(one, text, true);
            Checks.decide(rising, text, true);
            int last = (1 << n) - 1;
            CHECKS.due("one vector, " + n, 1, () -> one.feasible(0));
            CHECKS.due("one vector, " + n, "5 5 5", () -> vectorOf(one, last));
            CHECKS.due("each means the next, " + n, n + 1, () -> rising.feasible(0));
            CHECKS.due("each means the next, " + n, 0, () -> rising.vector(0, last, 0));
            CHECKS.due("each means the next, " + n, n, () -> rising.vector(0, 0, 0));
        }
        for (int n = 1; n <= 3; n++) {
            MaskedCauses free = withRange(0, 1);
            for (int i = 0; i < n; i++) {
                free.condition(2, i, -1, 1);
            }
            Checks.decide(free, COUNTED[n - 1], true);
            CHECKS.due("all words of " + n, 1 << n, () -> free.feasible(0));
        }
        inputsWithoutAConditionDoNotCount();
    }

    private static void inputsWithoutAConditionDoNotCount() {
        for (int inputs = 1; inputs <= 3; inputs++) {
            MaskedCauses m = new MaskedCauses();
            for (int i = 0; i < inputs; i++) {
                m.input(0, 4);
            }
            m.condition(2, 0, -1, 4);
            Checks.decide(m, "A", true);
            CHECKS.due("with " + inputs + " inputs", 2, () -> m.feasible(0));
            CHECKS.due("with " + inputs + " inputs", 4, () -> m.vector(0, 1, 0));
        }
    }

    /** A is always true, B never, each of them with each D that there can be. */
    private static void nothingOfDecisionsBefore() {
        for (int a = 0; a < 3; a++) {
            for (int b = NONE; b < 3; b++) {
                if (a != b) {
                    MaskedCauses m = withRange(-20, 20);
                    m.condition(0, a, b, 50);
                    m.condition(2, a, b, 50);
                    Checks.decide(m, "A", true);
                    Checks.decide(m, "B", true);
                    Checks.decide(m, "A", true);
                    String what = " of " + a + " and " + b;
                    CHECKS.due("A" + what, "1 -20", () -> m.feasible(0) + " " + m.vector(0, 1, 0));
                    CHECKS.due("B" + what, "1 -20", () -> m.feasible(1) + " " + m.vector(1, 0, 0));
                    CHECKS.due("A again" + what, "1 -20", () -> m.feasible(2) + " " + m.vector(2, 1, 0));
                }
            }
        }
    }

    private static void first(String want, int kind, int a, int b, int k) {
        MaskedCauses m = withRange(-20, 20);
        m.condition(kind, a, b, k);
        Checks.decide(m, "A", true);
        CHECKS.due("kind " + kind + " of " + a + ", " + b + ", " + k, want, () -> vectorOf(m, 1));
    }

    /** The first input is least, whatever the others are then; least is not nearest to 0. */
    private static void leastFirst() {
        first("-20 20 -20", 2, 0, 1, -40);
        first("-20 -20 20", 2, 0, 2, -40);
        first("-20 -20 -20", 2, 0, 1, 0);
        first("-20 10 -20", 0, 0, 1, -30);
        first("20 -20 -20", 2, 0, 1, 40);
        first("20 -20 -20", 2, 0, 2, 40);
        first("-20 -20 -20", 0, 0, NONE, 20);
        first("-20 -20 -20", 3, 0, NONE, 20);
        first("-19 -20 -20", 3, 0, NONE, -20);
        first("20 -20 -20", 2, 0, NONE, 20);
        first("-19 -20 -20", 2, 0, 1, 1);
        first("-20 20 -20", 2, 1, 0, 40);
        MaskedCauses m = new MaskedCauses();
        m.input(-3, 5);
        m.input(-4, 6);
        m.condition(2, 0, 1, 0);
        Checks.decide(m, "A", true);
        CHECKS.due("of a range of its own", "-3 -3", () -> m.vector(0, 1, 0) + " " + m.vector(0, 1, 1));
        CHECKS.due("of a range of its own", "-3 -4", () -> m.vector(0, 0, 0) + " " + m.vector(0, 0, 1));
    }

    private static void leastSecondAndThird() {
        first("-20 -20 20", 2, 1, 2, -40);
        first("-20 20 -20", 2, 1, 2, 40);
        first("-20 -15 -20", 2, 1, 2, 5);
        first("-20 -20 -20", 2, 2, 1, 0);
        first("-20 -20 -15", 2, 2, 1, 5);
        first("-20 -20 -10", 2, 2, NONE, -10);
        first("-20 -10 -20", 2, 1, NONE, -10);
        first("-20 -20 20", 2, 2, NONE, 20);
        first("-20 20 -20", 2, 1, NONE, 20);
        first("-20 -20 -19", 3, 2, NONE, -20);
        first("-20 -20 -19", 3, 1, 2, 0);
        first("-20 -20 -19", 3, 2, 1, 0);
        first("-20 -19 -20", 3, 1, NONE, -20);
        MaskedCauses m = withRange(-2, 2);
        m.condition(2, 0, 1, -1);
        m.condition(2, 1, 2, -1);
        Checks.decide(m, "A&B", true);
        CHECKS.due("A and B", "-2 -1 0", () -> vectorOf(m, 3));
        CHECKS.due("A alone", "-2 -1 -2", () -> vectorOf(m, 1));
        CHECKS.due("B alone", "-2 -2 -1", () -> vectorOf(m, 2));
        CHECKS.due("neither", "-2 -2 -2", () -> vectorOf(m, 0));
    }

    private static String outcomes(MaskedCauses m) {
        StringBuilder out = new StringBuilder();
        for (int word = 0; word < 1 << m.conditions(0); word++) {
            out.append(m.outcome(0, word) ? 1 : 0);
        }
        return out.toString();
    }

    /** Also of words that are not feasible, and the same in a short decision. */
    private static void outcomes() {
        for (boolean isShort : new boolean[] {false, true}) {
            CHECKS.due("A", "01", () -> outcomes(decided("A", isShort)));
            CHECKS.due("40 characters", "10", () -> outcomes(decided("!".repeat(39) + "A", isShort)));
            CHECKS.due("38 times !", "01", () -> outcomes(decided("!".repeat(38) + "A", isShort)));
            CHECKS.due("A^A ..", "00", () -> outcomes(decided("A^".repeat(19) + "A", isShort)));
            CHECKS.due("A^A^A ..", "01", () -> outcomes(decided("A^".repeat(18) + "A", isShort)));
            CHECKS.due("all of six", "0".repeat(63) + "1", () -> outcomes(decided("A&B&C&D&E&F", isShort)));
            CHECKS.due("one of six", "0" + "1".repeat(63), () -> outcomes(decided("A|B|C|D|E|F", isShort)));
            CHECKS.due("F of six", "0".repeat(32) + "1".repeat(32),
                    () -> outcomes(decided("F|F&(A&B&C&D&E)", isShort)));
            CHECKS.due("never", "00", () -> outcomes(decided("A&!A", isShort)));
            CHECKS.due("always", "11", () -> outcomes(decided("A|!A", isShort)));
        }
        MaskedCauses m = withRange(0, 0);
        m.condition(0, 0, -1, 0);
        m.condition(0, 0, -1, -1);
        Checks.decide(m, "A^B", true);
        CHECKS.due("of words that are not feasible", "0110", () -> outcomes(m));
        MaskedCauses six = decided("A^B^C^D^E^F", true);
        for (int word = 0; word < 64; word++) {
            int w = word;
            CHECKS.due("odd or even", Integer.bitCount(word) % 2 == 1, () -> six.outcome(0, w));
        }
    }

    private static void evaluated(String want, String text) {
        CHECKS.due("evaluated in " + text, want, () -> evaluatedBy(decided(text, true)));
    }

    /** For each word, word 0 first, the numbers of the conditions that it evaluates. */
    private static String evaluatedBy(MaskedCauses m) {
        StringBuilder out = new StringBuilder();
        int count = m.conditions(0);
        for (int word = 0; word < 1 << count; word++) {
            out.append(word == 0 ? "" : " ");
            for (int i = 0; i < count; i++) {
                out.append(m.evaluated(0, word, i) ? "" + i : "");
            }
        }
        return out.toString();
    }

    private static void behindAnd() {
        evaluated("0 01 0 01", "A&B");
        evaluated("1 1 01 01", "B&A");
        evaluated("01 0 01 0", "!A&B");
        evaluated("0 01 0 012 0 01 0 012", "A&B&C");
        evaluated("0 01 0 012 0 01 0 012", "A&(B&C)");
        evaluated("0 012 0 012 0 012 0 012", "A&(B^C)");
        evaluated("0 012 0 01 0 012 0 01", "A&(B|C)");
        evaluated("0 01 0 01", "A&(B&B)");
    }

    private static void behindOr() {
        evaluated("01 0 01 0", "A|B");
        evaluated("01 01 1 1", "B|A");
        evaluated("0 01 0 01", "!A|B");
        evaluated("012 0 01 0 012 0 01 0", "A|B|C");
        evaluated("012 0 01 0 012 0 01 0", "A|(B|C)");
        evaluated("012 0 012 0 012 0 012 0", "A|B^C");
        evaluated("01 0 012 0 01 0 012 0", "A|B&C");
    }

    private static void inThatAndInThatDecision() {
        // What an and has decided is decided for that and alone.
        evaluated("02 012 02 01 02 012 02 01", "A&B|C");
        evaluated("02 012 02 012 02 012 02 012", "A&B^C");
        // What a decision in brackets has decided is decided in those brackets alone.
        evaluated("01 02 012 02 01 02 012 02", "(A|B)&C");
        evaluated("02 012 02 01 02 012 02 01", "(A&B)|C");
        evaluated("012 02 012 02 012 02 012 02", "(A|B)^C");
        evaluated("0 012 0 01 0 012 0 01", "!(!A|!(B|C))");
        // All that stands before it decides, not its last part alone.
        evaluated("012 01 01 012 012 01 01 012", "A^B|C");
        evaluated("02 01 02 01 02 01 02 01", "A&(B|!B)|C");
        evaluated("0 01 0 012 0 01 0 012", "A&A&B&A&C");
        evaluated("012 0 01 0 012 0 01 0", "A|A&!A|B|A&!A|C");
    }

    private static void behindXor() {
        evaluated("01 01 01 01", "A^B");
        evaluated("012 012 012 012 012 012 012 012", "A^B^C");
        evaluated("012 012 012 012 012 012 012 012", "A^A^(B^C)");
        evaluated("01 01 012 012 01 01 012 012", "A^B&C");
        evaluated("01 01 01 01", "A^!A^B");
    }

    /** A condition is evaluated if all before it are true, with &, or false, with |. */
    private static void allWordsOfSix() {
        MaskedCauses and = decided("A&B&C&D&E&F", true);
        MaskedCauses or = decided("A|B|C|D|E|F", true);
        for (int word = 0; word < 64; word++) {
            for (int i = 0; i < 6; i++) {
                int w = word;
                int condition = i;
                int before = (1 << i) - 1;
                CHECKS.due("& by word " + word, (word & before) == before, () -> and.evaluated(0, w, condition));
                CHECKS.due("| by word " + word, (word & before) == 0, () -> or.evaluated(0, w, condition));
            }
        }
    }

    private static void atOnePlaceAtLeast() {
        evaluated("01 01 01 01", "A&B|B");
        evaluated("01 01 01 01", "A&B^!A&B");
        evaluated("01 01 01 01", "A&B|!A&B");
        evaluated("01 01 01 01", "(A|B)^(B&A)");
        evaluated("01 01 01 01", "(A|B)&(A&B|B)");
        evaluated("02 01 02 01 02 01 02 01", "A&B|!A&C");
    }

    private static void neverEvaluated() {
        evaluated("0 0 0 0", "A&!A&B");
        evaluated("0 0 0 0", "A|!A|B");
        evaluated("0 0 0 0", "(A|!A)&A|A|!A|B");
        evaluated("0 0 0 0 0 0 0 0", "A|!A|B|C");
        for (int criterion = 0; criterion < 3; criterion++) {
            int c = criterion;
            CHECKS.due("not solved", NONE, () -> decided("A|!A|B", true).solve(0, 1, c));
        }
    }

    private static void inOthers() {
        String[] texts = {"A&B&C&D&E&F", "A|B|C|D|E|F", "A&!A&B&C&D&E&F", "F|!F|E|D|C|B|A", "(A|B&(C|D&(E|F)))"};
        for (String text : texts) {
            MaskedCauses m = decided(text, false);
            for (int word = 0; word < 64; word++) {
                for (int i = 0; i < 6; i++) {
                    int w = word;
                    int condition = i;
                    CHECKS.due(text + ", word " + w, true, () -> m.evaluated(0, w, condition));
                }
            }
        }
        MaskedCauses both = Checks.withEight();
        Checks.decide(both, "A&B", true);
        Checks.decide(both, "A&B", false);
        Checks.decide(both, "A|B", true);
        CHECKS.due("short", false, () -> both.evaluated(0, 0, 1));
        CHECKS.due("not short, behind a short one", true, () -> both.evaluated(1, 0, 1));
        CHECKS.due("short again", false, () -> both.evaluated(2, 1, 1));
        CHECKS.due("short again", true, () -> both.evaluated(2, 0, 1));
    }
}
