/** Promises 1 to 6: a new object, input, condition, type, wipe, decision. */
public final class Promises01To06Test {
    private static final Checks CHECKS = new Checks();

    public static void main(String[] args) {
        newObject();
        inputNumbersAndRanges();
        inputExceptions();
        conditionNumbers();
        conditionExceptions();
        conditionKinds();
        typeTakesPrintable();
        typeTakesForty();
        wipe();
        decisionNumbers();
        decisionStates();
        decisionFaults();
        decisionLetters();
        decisionDepth();
        decisionFortyCharacters();
        CHECKS.end();
    }

    private static void newObject() {
        MaskedCauses m = new MaskedCauses();
        CHECKS.due("1: NONE", -1, () -> MaskedCauses.NONE);
        CHECKS.due("1: length", 0, m::length);
        CHECKS.due("1: charAt", ' ', () -> m.charAt(0));
        CHECKS.due("1: suiteAt", -1, () -> m.suiteAt(0));
        CHECKS.due("1: no recorded vectors", 0, m::forget);
        CHECKS.due("1: no text", 0, m::wipe);
        CHECKS.index("1: no decisions", () -> m.conditions(0));
        CHECKS.state("1: no conditions", () -> m.decision(true));
        CHECKS.state("1: no conditions", () -> m.keep(0, 0, 0));
        CHECKS.index("1: no inputs", () -> m.condition(0, 0, -1, 0));
        CHECKS.due("1: first input", 0, () -> m.input(0, 0));
        CHECKS.due("1: objects are apart", 0, () -> new MaskedCauses().input(0, 0));
    }

    private static void inputNumbersAndRanges() {
        MaskedCauses m = new MaskedCauses();
        CHECKS.argument("2: low too low", () -> m.input(-21, 0));
        CHECKS.argument("2: high too high", () -> m.input(0, 21));
        CHECKS.argument("2: turned round", () -> m.input(1, 0));
        CHECKS.argument("2: both too high", () -> m.input(21, 21));
        CHECKS.argument("2: both too low", () -> m.input(-30, -21));
        CHECKS.argument("2: extremes", () -> m.input(Integer.MIN_VALUE, Integer.MAX_VALUE));
        CHECKS.argument("2: extremes", () -> m.input(Integer.MAX_VALUE, Integer.MIN_VALUE));
        CHECKS.due("2: widest", 0, () -> m.input(-20, 20));
        CHECKS.due("2: one number", 1, () -> m.input(20, 20));
        CHECKS.due("2: one number", 2, () -> m.input(-20, -20));
    }

    private static void inputExceptions() {
        MaskedCauses full = new MaskedCauses();
        full.input(0, 1);
        full.input(0, 1);
        full.input(0, 1);
        CHECKS.state("2: there are 3", () -> full.input(0, 1));
        CHECKS.state("2: there are 3, state wins", () -> full.input(5, 1));
        MaskedCauses m = new MaskedCauses();
        m.input(0, 1);
        m.condition(0, 0, -1, 0);
        CHECKS.state("2: a condition", () -> m.input(0, 1));
        CHECKS.state("2: a condition, state wins", () -> m.input(1, 0));
        CHECKS.index("2: a refused input is none", () -> m.condition(0, 1, -1, 0));
    }

    private static void conditionNumbers() {
        MaskedCauses m = new MaskedCauses();
        m.input(0, 5);
        m.input(0, 5);
        for (int i = 0; i < 8; i++) {
            int number = i;
            CHECKS.due("3: number " + i, i, () -> m.condition(number % 4, number % 2, -1, number));
        }
        CHECKS.state("3: there are 8", () -> m.condition(0, 0, -1, 0));
        CHECKS.state("3: state wins over index", () -> m.condition(0, 9, -1, 0));
        CHECKS.state("3: state wins over argument", () -> m.condition(9, 0, 0, 99));
    }

    private static void conditionExceptions() {
        MaskedCauses m = new MaskedCauses();
        CHECKS.index("3: no input at all", () -> m.condition(0, 0, -1, 0));
        m.input(0, 5);
        m.input(0, 5);
        CHECKS.index("3: a too great", () -> m.condition(0, 2, -1, 0));
        CHECKS.index("3: a is no input but NONE", () -> m.condition(0, -1, -1, 0));
        CHECKS.index("3: b too great", () -> m.condition(0, 0, 2, 0));
        CHECKS.index("3: b below NONE", () -> m.condition(0, 0, -2, 0));
        CHECKS.index("3: index wins", () -> m.condition(7, 0, 2, 77));
        CHECKS.index("3: index wins", () -> m.condition(0, 2, 2, 0));
        CHECKS.index("3: extremes", () -> m.condition(0, Integer.MIN_VALUE, Integer.MAX_VALUE, 0));
        CHECKS.argument("3: kind -1", () -> m.condition(-1, 0, -1, 0));
        CHECKS.argument("3: kind 4", () -> m.condition(4, 0, -1, 0));
        CHECKS.argument("3: k 51", () -> m.condition(0, 0, -1, 51));
        CHECKS.argument("3: k -51", () -> m.condition(0, 0, -1, -51));
        CHECKS.argument("3: a and b the same", () -> m.condition(0, 1, 1, 0));
        CHECKS.argument("3: extremes", () -> m.condition(Integer.MAX_VALUE, 0, 1, Integer.MIN_VALUE));
        CHECKS.due("3: k 50, none was made before", 0, () -> m.condition(0, 0, 1, 50));
        CHECKS.due("3: k -50", 1, () -> m.condition(3, 1, 0, -50));
    }

    /** Which of x = 0 .. 4 make the condition true, as digits; y is always 1. */
    private static String trueFor(int kind, int a, int b, int k) {
        StringBuilder found = new StringBuilder();
        for (int x = 0; x < 5; x++) {
            MaskedCauses m = new MaskedCauses();
            m.input(x, x);
            m.input(1, 1);
            m.condition(kind, a, b, k);
            Checks.decide(m, "A", false);
            boolean isTrue = !"throws.IllegalStateException".equals(Checks.answer(() -> m.vector(0, 1, 0)));
            found.append(isTrue ? "" + x : "");
        }
        return found.toString();
    }

    private static void conditionKinds() {
        CHECKS.due("3: x <= 2", "012", () -> trueFor(0, 0, -1, 2));
        CHECKS.due("3: x < 2", "01", () -> trueFor(1, 0, -1, 2));
        CHECKS.due("3: x == 2", "2", () -> trueFor(2, 0, -1, 2));
        CHECKS.due("3: x != 2", "0134", () -> trueFor(3, 0, -1, 2));
        CHECKS.due("3: x - y <= 2", "0123", () -> trueFor(0, 0, 1, 2));
        CHECKS.due("3: x - y < 2", "012", () -> trueFor(1, 0, 1, 2));
        CHECKS.due("3: x - y == 2", "3", () -> trueFor(2, 0, 1, 2));
        CHECKS.due("3: x - y != 2", "0124", () -> trueFor(3, 0, 1, 2));
        CHECKS.due("3: y - x <= -2", "34", () -> trueFor(0, 1, 0, -2));
        CHECKS.due("3: y - x < -2", "4", () -> trueFor(1, 1, 0, -2));
        CHECKS.due("3: y - x == -2", "3", () -> trueFor(2, 1, 0, -2));
        CHECKS.due("3: y - x != -2", "0124", () -> trueFor(3, 1, 0, -2));
    }

    private static void typeTakesPrintable() {
        MaskedCauses m = new MaskedCauses();
        CHECKS.due("4: code 31", false, () -> m.type((char) 31));
        CHECKS.due("4: code 0", false, () -> m.type((char) 0));
        CHECKS.due("4: code 127", false, () -> m.type((char) 127));
        CHECKS.due("4: code 65535", false, () -> m.type((char) 65535));
        CHECKS.due("4: code 32", true, () -> m.type(' '));
        CHECKS.due("4: code 126", true, () -> m.type('~'));
        CHECKS.due("4: two were taken", 2, m::wipe);
    }

    private static void typeTakesForty() {
        MaskedCauses m = new MaskedCauses();
        for (int i = 0; i < 40; i++) {
            CHECKS.due("4: character " + i, true, () -> m.type('A'));
        }
        CHECKS.due("4: there are 40", false, () -> m.type('A'));
        CHECKS.due("4: there are 40", 40, m::wipe);
        CHECKS.due("4: room again", true, () -> m.type('A'));
    }

    private static void wipe() {
        MaskedCauses m = new MaskedCauses();
        m.input(0, 1);
        m.condition(2, 0, -1, 0);
        Checks.typeAll(m, "!!!");
        CHECKS.due("5: had three", 3, m::wipe);
        CHECKS.due("5: had none", 0, m::wipe);
        CHECKS.due("5: the text is empty", -1, () -> m.decision(true));
        m.type('!');
        m.wipe();
        Checks.decide(m, "A", true);
        CHECKS.due("5: nothing is left of it", "A", () -> Checks.shown(m, 0));
    }

    private static void decisionNumbers() {
        MaskedCauses m = Checks.withEight();
        CHECKS.due("6: number", 0, () -> Checks.decide(m, "A|B", true));
        CHECKS.due("6: the text is empty then", 0, m::wipe);
        CHECKS.due("6: a fault makes none", -2, () -> Checks.decide(m, "A+", false));
        CHECKS.due("6: the text is empty then", 0, m::wipe);
        CHECKS.due("6: number", 1, () -> Checks.decide(m, "C", false));
        CHECKS.index("6: no third", () -> m.conditions(2));
        CHECKS.due("6: number", 2, () -> Checks.decide(m, "(C)", false));
        CHECKS.due("6: number", 3, () -> Checks.decide(m, "!D", true));
        m.type('x');
        CHECKS.state("6: there are 4", () -> m.decision(true));
        CHECKS.due("6: the text stays", 1, m::wipe);
    }

    private static void decisionStates() {
        MaskedCauses m = new MaskedCauses();
        m.type('A');
        CHECKS.state("6: no input", () -> m.decision(true));
        m.input(0, 1);
        CHECKS.state("6: no condition", () -> m.decision(false));
        m.condition(0, 0, -1, 0);
        CHECKS.due("6: the text stayed", 0, () -> m.decision(false));
        CHECKS.due("6: once", 0, m::wipe);
    }

    private static void fault(int place, String text) {
        MaskedCauses m = Checks.withEight();
        CHECKS.due("6: fault of " + text, -1 - place, () -> Checks.decide(m, text, false));
    }

    private static void decisionFaults() {
        fault(0, "");
        fault(0, " ");
        fault(0, " A");
        fault(1, "A ");
        fault(0, ")");
        fault(0, "&A");
        fault(0, "|A");
        fault(0, "^A");
        fault(1, "()");
        fault(1, "AB");
        fault(1, "A!");
        fault(1, "A(");
        fault(1, "A)");
        fault(3, "(A)B");
        fault(3, "(A)(");
        fault(3, "(A))");
        fault(2, "A&");
        fault(2, "A&&A");
        fault(2, "A|^A");
        fault(1, "!");
        fault(1, "!|");
        fault(2, "!!");
        fault(1, "(");
        fault(2, "(A");
        fault(2, "(A!");
        fault(4, "(A^B");
        fault(6, "!(A|B&");
        fault(0, "I");
        fault(0, "@");
        fault(0, "a");
        fault(2, "A|~");
    }

    private static void decisionLetters() {
        MaskedCauses m = new MaskedCauses();
        m.input(0, 5);
        m.condition(0, 0, -1, 1);
        m.condition(0, 0, -1, 2);
        CHECKS.due("6: C is none", -3, () -> Checks.decide(m, "A&C", true));
        m.condition(0, 0, -1, 3);
        CHECKS.due("6: C is one", 0, () -> Checks.decide(m, "A&C", true));
        fault(12, "A&B&C&D&E&F&G");
        fault(12, "A&B&C&D&E&F&G+");
        fault(14, "A&B&C&D&E&F&A&H");
        fault(13, "(A|C|D|E|G|H&B)");
        MaskedCauses six = Checks.withEight();
        CHECKS.due("6: six, some twice", 0, () -> Checks.decide(six, "C&D&E&F&G&H&C|D^E", true));
        CHECKS.due("6: six again", 1, () -> Checks.decide(six, "A&B&E&F&G&H&A", true));
    }

    private static void decisionDepth() {
        fault(5, "((((((A))))))");
        fault(5, "((((((");
        fault(6, "!((((((A))))))");
        fault(10, "(A)&(((((A");
        fault(17, "(((((A)))))&((((((A");
        MaskedCauses m = Checks.withEight();
        CHECKS.due("6: 6 deep", 0, () -> Checks.decide(m, "(((((A)))))", true));
        CHECKS.due("6: 6 deep twice", 1, () -> Checks.decide(m, "(((((A)))))&(((((B)))))", true));
        CHECKS.due("6: ! is no depth", 2, () -> Checks.decide(m, "!!!!!!!!!!(!(!(!(!(A)))))", true));
    }

    private static void decisionFortyCharacters() {
        fault(40, "!".repeat(40));
        fault(40, "A&".repeat(20));
        MaskedCauses m = Checks.withEight();
        CHECKS.due("6: 39 times !", 0, () -> Checks.decide(m, "!".repeat(39) + "A", true));
        CHECKS.due("6: 39 times ! shown", "!".repeat(39) + "A", () -> Checks.shown(m, 0));
        CHECKS.due("6: 39 times ! is not", false, () -> m.outcome(0, 1));
        CHECKS.due("6: 39 times ! is not", true, () -> m.outcome(0, 0));
        CHECKS.due("6: 20 ones", 1, () -> Checks.decide(m, "A^".repeat(19) + "!A", true));
        CHECKS.due("6: 20 ones shown", "A^".repeat(19) + "!A", () -> Checks.shown(m, 1));
    }
}
