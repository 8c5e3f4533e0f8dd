/** Promises 7 to 12: conditions, show, feasible, vector, outcome, evaluated. */
public final class Promises07To12Test {
    private static final Checks CHECKS = new Checks();

    public static void main(String[] args) {
        conditions();
        showBrackets();
        showReplacesThePage();
        feasible();
        vectorIsTheFirst();
        vectorOfAllDifferences();
        vectorOfWidestDifferences();
        vectorExceptions();
        laterConditionsChangeNothing();
        outcomes();
        wordsInOrderOfLetters();
        outcomeExceptions();
        evaluatedInShort();
        evaluatedInFull();
        evaluatedExceptions();
        CHECKS.end();
    }

    private static void conditions() {
        MaskedCauses m = Checks.withEight();
        Checks.decide(m, "A&A|A", true);
        Checks.decide(m, "H&C|!C", true);
        Checks.decide(m, "A|B|C|D|E|F", true);
        CHECKS.due("7: one, three times", 1, () -> m.conditions(0));
        CHECKS.due("7: two", 2, () -> m.conditions(1));
        CHECKS.due("7: six", 6, () -> m.conditions(2));
        CHECKS.index("7: no such decision", () -> m.conditions(3));
        CHECKS.index("7: no such decision", () -> m.conditions(-1));
    }

    private static void shown(String want, String text) {
        MaskedCauses m = Checks.withEight();
        CHECKS.due("8: read " + text, 0, () -> Checks.decide(m, text, false));
        CHECKS.due("8: count of " + text, want.length(), () -> m.show(0));
        CHECKS.due("8: page of " + text, want, () -> Checks.page(m));
    }

    private static void showBrackets() {
        shown("A", "A");
        shown("A", "(((((A)))))");
        shown("!A", "!(A)");
        shown("!!A", "!(!(A))");
        shown("H|A", "H|A");
        shown("A|B|C", "A|(B|C)");
        shown("A|B|C", "((A|B)|C)");
        shown("A^B^C", "A^(B^C)");
        shown("A&B&C", "A&((B&C))");
        shown("A&(B|C)", "A&(B|C)");
        shown("(A|B)&C", "((A|B))&C");
        shown("A^(B|C)", "A^((B|C))");
        shown("A&(B^C)", "A&(B^C)");
        shown("!(A|B)", "!((A|B))");
        shown("!(A^B)", "!(A^B)");
        shown("!(A&B)", "!(A&B)");
        shown("A|B^C", "A|(B^C)");
        shown("A|B&C", "A|(B&C)");
        shown("A^B&C", "A^(B&C)");
        shown("!A&!B^!C|!D", "((!A)&(!B)^(!C))|(!D)");
        shown("!!(A|B)", "!(!(A|B))");
        shown("(A|B&(C^D)^!(E&F))&A", "((A|((B&(C^D))^!(E&F)))&A)");
        shown("((A|B)^C)&D", "((A|B)^C)&D");
        shown("D&(C^(A|B))", "D&((C^((A|B))))");
    }

    private static void showReplacesThePage() {
        MaskedCauses m = Checks.withEight();
        Checks.decide(m, "A|B|C|D", true);
        Checks.decide(m, "!F", true);
        CHECKS.due("8: nothing is shown by reading", 0, m::length);
        CHECKS.due("8: long", "A|B|C|D", () -> Checks.shown(m, 0));
        CHECKS.index("8: no such decision", () -> m.show(2));
        CHECKS.index("8: no such decision", () -> m.show(-1));
        CHECKS.due("8: a throw leaves the page", "A|B|C|D", () -> Checks.page(m));
        Checks.decide(m, "G&H", true);
        CHECKS.due("8: reading leaves the page", "A|B|C|D", () -> Checks.page(m));
        CHECKS.due("8: instead of what was there", "!F", () -> Checks.shown(m, 1));
        CHECKS.due("8: and back", "A|B|C|D", () -> Checks.shown(m, 0));
    }

    private static void feasible() {
        MaskedCauses m = new MaskedCauses();
        m.input(0, 3);
        m.input(-2, 2);
        m.condition(0, 0, -1, 1);
        m.condition(0, 0, -1, 2);
        m.condition(3, 1, -1, 0);
        m.condition(0, 0, -1, 50);
        Checks.decide(m, "A|B", true);
        Checks.decide(m, "A|B|C", false);
        Checks.decide(m, "D", false);
        CHECKS.due("9: A means B", 3, () -> m.feasible(0));
        CHECKS.due("9: C is free", 6, () -> m.feasible(1));
        CHECKS.due("9: always true", 1, () -> m.feasible(2));
        CHECKS.index("9: no such decision", () -> m.feasible(3));
        CHECKS.index("9: no such decision", () -> m.feasible(-1));
        MaskedCauses all = new MaskedCauses();
        all.input(0, 1);
        all.input(0, 1);
        all.input(0, 1);
        for (int i = 0; i < 6; i++) {
            all.condition(2, i % 3, -1, i / 3);
        }
        Checks.decide(all, "A|B|C|D|E|F", true);
        CHECKS.due("9: D, E, F are not A, not B, not C", 8, () -> all.feasible(0));
    }

    private static void vectorIsTheFirst() {
        MaskedCauses m = new MaskedCauses();
        m.input(-3, 3);
        m.input(-3, 3);
        m.input(-20, 20);
        m.condition(2, 0, 1, 2);
        m.condition(0, 2, -1, 4);
        m.condition(2, 1, 0, 6);
        Checks.decide(m, "A&B|C", true);
        String[] want = {"-3 -3 5", "-1 -3 5", "-3 -3 -20", "-1 -3 -20", "-3 3 5", "", "-3 3 -20", ""};
        for (int word = 0; word < 8; word++) {
            int w = word;
            if (want[w].isEmpty()) {
                CHECKS.state("10: word " + w, () -> m.vector(0, w, 0));
            } else {
                CHECKS.due("10: word " + w, want[w], () -> vectorOf(m, 0, w));
            }
        }
        Checks.decide(m, "B", true);
        CHECKS.due("10: inputs without a condition are least", "-3 -3 5", () -> vectorOf(m, 1, 0));
    }

    private static String vectorOf(MaskedCauses m, int decision, int word) {
        return m.vector(decision, word, 0) + " " + m.vector(decision, word, 1) + " "
                + m.vector(decision, word, 2);
    }

    /** Each input minus each other one, in decisions that know nothing of one another. */
    private static void vectorOfAllDifferences() {
        int[][] differences = {{0, 1}, {0, 2}, {1, 2}, {1, 0}, {2, 0}, {2, 1}};
        String[] want = {"3 0 0", "3 0 0", "0 3 0", "0 3 0", "0 0 3", "0 0 3"};
        for (int first = 0; first < 6; first++) {
            MaskedCauses m = new MaskedCauses();
            for (int i = 0; i < 3; i++) {
                m.input(0, 4);
            }
            for (int[] d : differences) {
                m.condition(2, d[0], d[1], 3);
            }
            for (int i = 0; i < 4; i++) {
                int number = i;
                int letter = (first + i) % 6;
                Checks.decide(m, "" + (char) ('A' + letter), false);
                CHECKS.due("10: difference " + letter, want[letter], () -> vectorOf(m, number, 1));
                CHECKS.due("10: no difference", "0 0 0", () -> vectorOf(m, number, 0));
            }
        }
    }

    private static void vectorOfWidestDifferences() {
        MaskedCauses m = new MaskedCauses();
        m.input(-20, 20);
        m.input(-20, 20);
        m.condition(2, 0, 1, -40);
        m.condition(2, 0, 1, 40);
        m.condition(2, 1, 0, 40);
        m.condition(0, 0, 1, 40);
        Checks.decide(m, "A|B", false);
        Checks.decide(m, "C", false);
        Checks.decide(m, "D", false);
        CHECKS.due("10: -40", "-20 20", () -> m.vector(0, 1, 0) + " " + m.vector(0, 1, 1));
        CHECKS.due("10: 40", "20 -20", () -> m.vector(0, 2, 0) + " " + m.vector(0, 2, 1));
        CHECKS.due("10: 40 turned round", "-20 20", () -> m.vector(1, 1, 0) + " " + m.vector(1, 1, 1));
        CHECKS.due("9: A or B or none", 3, () -> m.feasible(0));
        CHECKS.due("9: never more than 40", 1, () -> m.feasible(2));
        Checks.decide(m, "D|B", false);
        CHECKS.due("9: nothing is left of decisions before", 2, () -> m.feasible(3));
    }

    private static void vectorExceptions() {
        MaskedCauses m = new MaskedCauses();
        m.input(0, 3);
        m.input(7, 9);
        m.condition(0, 0, -1, 1);
        m.condition(0, 0, -1, 2);
        Checks.decide(m, "A|B", true);
        CHECKS.due("10: second input", 7, () -> m.vector(0, 2, 1));
        CHECKS.state("10: not feasible", () -> m.vector(0, 1, 0));
        CHECKS.index("10: index wins over state", () -> m.vector(0, 1, 2));
        CHECKS.index("10: no such input", () -> m.vector(0, 2, 2));
        CHECKS.index("10: no such input", () -> m.vector(0, 2, -1));
        CHECKS.index("10: no such word", () -> m.vector(0, 4, 0));
        CHECKS.index("10: no such word", () -> m.vector(0, -1, 0));
        CHECKS.index("10: no such decision", () -> m.vector(1, 0, 0));
        CHECKS.index("10: no such decision", () -> m.vector(-1, 0, 0));
        CHECKS.index("10: extremes", () -> m.vector(0, Integer.MAX_VALUE, Integer.MIN_VALUE));
    }

    private static void laterConditionsChangeNothing() {
        MaskedCauses m = new MaskedCauses();
        m.input(0, 3);
        m.condition(0, 0, -1, 1);
        Checks.decide(m, "A", true);
        m.condition(0, 0, -1, 2);
        Checks.decide(m, "B", true);
        CHECKS.due("9: after a condition more", 2, () -> m.feasible(0));
        CHECKS.due("10: after a condition more", 2, () -> m.vector(0, 0, 0));
        CHECKS.due("10: of the condition more", 3, () -> m.vector(1, 0, 0));
        CHECKS.due("7: after a condition more", 1, () -> m.conditions(0));
    }

    /** The outcomes of all words, word 0 first. */
    private static String outcomesOf(String text, boolean isShort) {
        MaskedCauses m = Checks.withEight();
        Checks.decide(m, text, isShort);
        StringBuilder out = new StringBuilder();
        for (int word = 0; word < 1 << m.conditions(0); word++) {
            out.append(m.outcome(0, word) ? 1 : 0);
        }
        return out.toString();
    }

    private static void outcomes() {
        for (boolean isShort : new boolean[] {false, true}) {
            CHECKS.due("11: A", "01", () -> outcomesOf("A", isShort));
            CHECKS.due("11: !A", "10", () -> outcomesOf("!A", isShort));
            CHECKS.due("11: A&B", "0001", () -> outcomesOf("A&B", isShort));
            CHECKS.due("11: A|B", "0111", () -> outcomesOf("A|B", isShort));
            CHECKS.due("11: A^B", "0110", () -> outcomesOf("A^B", isShort));
            CHECKS.due("11: & before ^", "01100110", () -> outcomesOf("A&A^B|C&!C", isShort));
            CHECKS.due("11: & before |", "01011111", () -> outcomesOf("A|B&C|C", isShort));
            CHECKS.due("11: ^ before |", "01111101", () -> outcomesOf("A|B^C", isShort));
            CHECKS.due("11: & before ^", "01010110", () -> outcomesOf("A^B&C", isShort));
            CHECKS.due("11: brackets", "00000110", () -> outcomesOf("(A^B)&C", isShort));
            CHECKS.due("11: ! binds most", "00100010", () -> outcomesOf("!A&B|C&!C", isShort));
            CHECKS.due("11: always", "11", () -> outcomesOf("A|!A", isShort));
        }
    }

    private static void wordsInOrderOfLetters() {
        CHECKS.due("11: G is bit 1 though it stands first", "0010", () -> outcomesOf("G&!C", true));
        MaskedCauses m = Checks.withEight();
        Checks.decide(m, "G&!C", true);
        CHECKS.due("12: C by its number 0", false, () -> m.evaluated(0, 1, 0));
        CHECKS.due("12: G by its number 1", true, () -> m.evaluated(0, 1, 1));
    }

    private static void outcomeExceptions() {
        MaskedCauses m = Checks.withEight();
        Checks.decide(m, "A|B", true);
        CHECKS.index("11: no such word", () -> m.outcome(0, 4));
        CHECKS.index("11: no such word", () -> m.outcome(0, -1));
        CHECKS.index("11: no such word", () -> m.outcome(0, 64));
        CHECKS.index("11: no such decision", () -> m.outcome(1, 0));
        CHECKS.index("11: no such decision", () -> m.outcome(-1, 0));
    }

    /** For each word, word 0 first, the numbers of the conditions that it evaluates. */
    private static String evaluatedBy(String text, boolean isShort) {
        MaskedCauses m = Checks.withEight();
        Checks.decide(m, text, isShort);
        StringBuilder out = new StringBuilder();
        for (int word = 0; word < 1 << m.conditions(0); word++) {
            out.append(word == 0 ? "" : " ");
            for (int i = 0; i < m.conditions(0); i++) {
                out.append(m.evaluated(0, word, i) ? "" + i : "");
            }
        }
        return out.toString();
    }

    private static void evaluatedInShort() {
        CHECKS.due("12: &", "0 01 0 01", () -> evaluatedBy("A&B", true));
        CHECKS.due("12: |", "01 0 01 0", () -> evaluatedBy("A|B", true));
        CHECKS.due("12: ^", "01 01 01 01", () -> evaluatedBy("A^B", true));
        CHECKS.due("12: second first", "1 1 01 01", () -> evaluatedBy("B&A", true));
        CHECKS.due("12: all ones before it", "0 01 0 012 0 01 0 012", () -> evaluatedBy("A&B&C", true));
        CHECKS.due("12: all xors before it", "012 0 01 0 012 0 01 0", () -> evaluatedBy("A|B|C", true));
        CHECKS.due("12: ! before &", "01 0 01 0", () -> evaluatedBy("!A&B", true));
        CHECKS.due("12: ! before |", "0 01 0 01", () -> evaluatedBy("!A|B", true));
        CHECKS.due("12: in brackets", "0 012 0 01 0 012 0 01", () -> evaluatedBy("A&(B|C)", true));
        CHECKS.due("12: ^ always, & behind it not", "01 01 012 012 01 01 012 012",
                () -> evaluatedBy("A^B&C", true));
        CHECKS.due("12: & before ^ decides nothing of ^", "02 012 02 012 02 012 02 012",
                () -> evaluatedBy("A&B^C", true));
        CHECKS.due("12: at one place at least", "01 01 01 01", () -> evaluatedBy("A&B|B", true));
        CHECKS.due("12: at two places", "02 01 02 01 02 01 02 01",
                () -> evaluatedBy("A&B|!A&C", true));
        CHECKS.due("12: what is always true decides", "02 01 02 01 02 01 02 01",
                () -> evaluatedBy("A&(B|!B)|C", true));
    }

    private static void evaluatedInFull() {
        CHECKS.due("12: full &", "01 01 01 01", () -> evaluatedBy("A&B", false));
        CHECKS.due("12: full |", "01 01 01 01", () -> evaluatedBy("A|B", false));
        CHECKS.due("12: full in brackets", "012 012 012 012 012 012 012 012",
                () -> evaluatedBy("A&(B|C)", false));
    }

    private static void evaluatedExceptions() {
        MaskedCauses m = Checks.withEight();
        Checks.decide(m, "A|B", true);
        CHECKS.index("12: no such condition", () -> m.evaluated(0, 0, 2));
        CHECKS.index("12: no such condition", () -> m.evaluated(0, 0, -1));
        CHECKS.index("12: no such word", () -> m.evaluated(0, 4, 0));
        CHECKS.index("12: no such word", () -> m.evaluated(0, -1, 0));
        CHECKS.index("12: no such decision", () -> m.evaluated(1, 0, 0));
        CHECKS.index("12: no such decision", () -> m.evaluated(-1, 0, 0));
    }
}
