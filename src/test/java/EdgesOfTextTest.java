/** The edges of the text and of what is a decision: "Terms", and promises 4 to 6. */
public final class EdgesOfTextTest {
    private static final Checks CHECKS = new Checks();

    public static void main(String[] args) {
        CHECKS.sentence("The TEXT has .. characters with codes 32 .. 126", EdgesOfTextTest::codes);
        CHECKS.sentence("The TEXT has at most 40 characters", EdgesOfTextTest::fortyCharacters);
        CHECKS.sentence("places count from 0", EdgesOfTextTest::placesCountFromZero);
        CHECKS.sentence("5: The text is empty; how many characters it had", EdgesOfTextTest::wiped);
        CHECKS.sentence("one or more XORS with | between", () -> joined('|'));
        CHECKS.sentence("a xor is one or more ANDS with ^ between", () -> joined('^'));
        CHECKS.sentence("an and is one or more ONES with & between", () -> joined('&'));
        CHECKS.sentence("a one is a condition that there is", EdgesOfTextTest::conditionThatThereIs);
        CHECKS.sentence("a one is .. ! and a one", EdgesOfTextTest::notAndAOne);
        CHECKS.sentence("a one is .. ( a decision )", EdgesOfTextTest::bracketedDecision);
        CHECKS.sentence("No spaces", EdgesOfTextTest::noSpaces);
        CHECKS.sentence("at most 6 different conditions", EdgesOfTextTest::sixDifferentConditions);
        CHECKS.sentence("decisions lie in one another at most 6 deep", EdgesOfTextTest::sixDeep);
        CHECKS.sentence("the first character with which the text up to and with it is not the beginning",
                EdgesOfTextTest::firstCharacterThatDoesNotFit);
        CHECKS.sentence("its length when there is none, but the text is none",
                EdgesOfTextTest::beginningsOfDecisions);
        CHECKS.sentence("the FAULT of all short texts", EdgesOfTextTest::allShortTexts);
        CHECKS.sentence("There are at most 4 decisions, numbered as they are made",
                EdgesOfTextTest::fourDecisions);
        CHECKS.sentence("6: Reads the text, which is empty then", EdgesOfTextTest::emptyThen);
        CHECKS.sentence("6: IllegalState: .. no condition", EdgesOfTextTest::firstCondition);
        CHECKS.end();
    }

    private static void codes() {
        for (int code = 0; code <= Character.MAX_VALUE; code++) {
            char c = (char) code;
            boolean isTaken = code >= 32 && code <= 126;
            MaskedCauses m = new MaskedCauses();
            CHECKS.due("code " + code, isTaken, () -> m.type(c));
            CHECKS.due("characters with code " + code, isTaken ? 1 : 0, m::wipe);
        }
        // What is typed is what is read, not what a code would be without its upper bits.
        MaskedCauses m = Checks.withEight();
        m.type((char) ('A' + 256));
        m.type('B');
        m.type((char) ('|' + 0x8000));
        CHECKS.due("refused codes are not in the text", 0, () -> m.decision(true));
        CHECKS.due("refused codes are not in the text", "B", () -> Checks.shown(m, 0));
    }

    private static void fortyCharacters() {
        for (char c : "A !~".toCharArray()) {
            MaskedCauses m = new MaskedCauses();
            for (int i = 0; i < 40; i++) {
                CHECKS.due("character " + i, true, () -> m.type(c));
            }
            CHECKS.due("character 40", false, () -> m.type(c));
            CHECKS.due("character 41", false, () -> m.type('A'));
            CHECKS.due("there were 40", 40, m::wipe);
        }
        refusedCharactersTakeNoRoom();
        fullTextIsRead();
    }

    private static void refusedCharactersTakeNoRoom() {
        MaskedCauses m = new MaskedCauses();
        Checks.typeAll(m, "x".repeat(39));
        CHECKS.due("a wrong code behind 39", false, () -> m.type((char) 127));
        CHECKS.due("the fortieth", true, () -> m.type('x'));
        CHECKS.due("a wrong code behind 40", false, () -> m.type((char) 31));
        CHECKS.due("there were 40", 40, m::wipe);
        CHECKS.due("room again", true, () -> m.type('x'));
        CHECKS.due("there was 1", 1, m::wipe);
    }

    private static void fullTextIsRead() {
        String[] texts = {
            "!".repeat(39) + "A", "!".repeat(38) + "!A", "A&B|".repeat(9) + "A^!B", "(A)&" + "A|".repeat(17) + "!A",
            "(((((" + "A|".repeat(14) + "!B" + ")))))"
        };
        for (String text : texts) {
            MaskedCauses m = Checks.withEight();
            CHECKS.due("length of " + text, 40, text::length);
            Checks.typeAll(m, text);
            CHECKS.due("behind " + text, false, () -> m.type('B'));
            CHECKS.due("read " + text, 0, () -> m.decision(false));
        }
        MaskedCauses m = Checks.withEight();
        Checks.decide(m, "A|".repeat(20) + "BCD", false);
        CHECKS.due("what is behind 40 was not taken", 0, m::wipe);
    }

    private static void fault(int place, String text) {
        for (boolean isShort : new boolean[] {false, true}) {
            CHECKS.due("the fault of \"" + text + "\"", -1 - place,
                    () -> Checks.decide(Checks.withEight(), text, isShort));
        }
    }

    private static void none(String text) {
        for (boolean isShort : new boolean[] {false, true}) {
            CHECKS.due("no fault of \"" + text + "\"", 0,
                    () -> Checks.decide(Checks.withEight(), text, isShort));
        }
    }

    private static void placesCountFromZero() {
        fault(0, "?");
        fault(1, "A?");
        fault(38, "!".repeat(38) + "?A");
        fault(38, "!".repeat(38) + "?");
        fault(39, "!".repeat(39) + "?");
        fault(39, "A|".repeat(19) + "A?");
    }

    private static void wiped() {
        MaskedCauses m = Checks.withEight();
        CHECKS.due("nothing", 0, m::wipe);
        for (int count : new int[] {1, 39, 40}) {
            Checks.typeAll(m, "!".repeat(count));
            CHECKS.due("how many of " + count, count, m::wipe);
            CHECKS.due("none then", 0, m::wipe);
        }
        CHECKS.due("an empty text is no decision", -1, () -> m.decision(true));
        Checks.typeAll(m, "A&(");
        m.wipe();
        CHECKS.due("only what was typed since", 0, () -> Checks.decide(m, "B", true));
        CHECKS.due("only what was typed since", "B", () -> Checks.shown(m, 0));
        CHECKS.due("wiping leaves the page", 0, m::wipe);
        CHECKS.due("wiping leaves the page", "B", () -> Checks.page(m));
        CHECKS.due("wiping leaves the decision", 1, () -> m.conditions(0));
    }

    /** One, two, many; none before, between or behind a sign. */
    private static void joined(char sign) {
        none("A");
        none("A" + sign + "B");
        none(("A" + sign).repeat(19) + "A");
        fault(0, "");
        fault(0, "" + sign);
        fault(0, sign + "A");
        fault(2, "A" + sign);
        fault(1, "AA");
        fault(1, "(" + sign + "A)");
        fault(3, "(A" + sign + ")");
        fault(3, "(A)B");
        fault(1, "!" + sign + "A");
        for (char other : "|^&".toCharArray()) {
            fault(2, "A" + sign + other + "A");
            none("A" + sign + "B" + other + "C");
            none("A" + other + "(B" + sign + "C)");
        }
        fault(40, ("A" + sign).repeat(20));
    }

    private static void conditionThatThereIs() {
        for (char c = 32; c < 127; c++) {
            String text = "" + c;
            if (c >= 'A' && c <= 'H') {
                none(text);
            } else if (c == '!' || c == '(') {
                fault(1, text);
            } else {
                fault(0, text);
                fault(1, "!" + text);
                fault(1, "(" + text);
                fault(2, "A&" + text);
            }
        }
        MaskedCauses m = new MaskedCauses();
        m.input(0, 1);
        m.condition(0, 0, -1, 0);
        CHECKS.due("B before it is made", -5, () -> Checks.decide(m, "A|!(B)", true));
        m.condition(0, 0, -1, 0);
        CHECKS.due("B when it is made", 0, () -> Checks.decide(m, "A|!(B)", true));
        CHECKS.due("C before it is made", -5, () -> Checks.decide(m, "A|!(C)", true));
    }

    private static void notAndAOne() {
        none("!A");
        none("!!A");
        none("!(A)");
        none("!(!A)");
        none("A&!B");
        none("!".repeat(39) + "H");
        fault(1, "!");
        fault(2, "!!");
        fault(39, "!".repeat(39));
        fault(40, "!".repeat(40));
        fault(1, "!)");
        fault(1, "!|");
        fault(1, "! A");
        fault(1, "A!");
        fault(1, "A!B");
        fault(3, "(A)!");
    }

    private static void bracketedDecision() {
        none("(A)");
        none("((A))");
        none("(A)&(B)");
        none("(!A|B^C&D)");
        fault(1, "()");
        fault(0, ")");
        fault(1, "A)");
        fault(3, "(A))");
        fault(1, "(");
        fault(2, "((");
        fault(2, "(A");
        fault(4, "((A)");
        fault(1, "A(");
        fault(1, "A(B)");
        fault(3, "(A)(B)");
        fault(3, "(A&)");
        fault(40, "(" + "A|".repeat(19) + "A");
    }

    /** A space before, between and behind the characters of a decision is the fault, where it stands. */
    private static void noSpaces() {
        String text = "!(A&B)^!C|H";
        none(text);
        for (int p = 0; p <= text.length(); p++) {
            fault(p, text.substring(0, p) + " " + text.substring(p));
            fault(p, text.substring(0, p) + " ");
        }
        fault(0, " ".repeat(40));
    }

    private static void sixDifferentConditions() {
        String letters = "ABCDEFGHABCDEFGH";
        for (int first = 0; first < 8; first++) {
            for (char sign : "|^&".toCharArray()) {
                String six = String.join("" + sign, letters.substring(first, first + 6).split(""));
                String again = letters.substring(first, first + 1);
                String seventh = letters.substring(first + 6, first + 7);
                String eighth = letters.substring(first + 7, first + 8);
                none(six.substring(0, 9));
                none(six);
                none(six + sign + again);
                none("!(" + six + ")" + sign + "!" + again);
                fault(12, six + sign + seventh);
                fault(12, six + sign + eighth);
                fault(12, six + sign + seventh + "?");
                fault(14, six + sign + again + sign + seventh);
                fault(14, six + sign + "!(" + seventh + ")");
                fault(12, six + sign);
                fault(13, "(" + six + sign + seventh);
                fault(11, six + seventh);
            }
        }
        oneDecisionAtATime();
    }

    private static void oneDecisionAtATime() {
        MaskedCauses m = Checks.withEight();
        CHECKS.due("A to F", 0, () -> Checks.decide(m, "A|B|C|D|E|F", true));
        CHECKS.due("C to H in another", 1, () -> Checks.decide(m, "C|D|E|F|G|H", true));
        CHECKS.due("A to G in none", -13, () -> Checks.decide(m, "A|B|C|D|E|F|G", true));
        CHECKS.due("G behind a refused one", 2, () -> Checks.decide(m, "G|H", true));
        CHECKS.due("six of the first", 6, () -> m.conditions(0));
        CHECKS.due("six of the second", 6, () -> m.conditions(1));
    }

    private static void sixDeep() {
        for (int brackets = 0; brackets <= 5; brackets++) {
            String text = "(".repeat(brackets) + "A" + ")".repeat(brackets);
            none(text);
            none("!" + text);
            none(text + "&" + text);
            fault(brackets, "(".repeat(brackets));
            fault(2 * brackets + 1, text + ")");
        }
        for (int brackets = 6; brackets <= 12; brackets++) {
            fault(5, "(".repeat(brackets) + "A" + ")".repeat(brackets));
            fault(5, "(".repeat(brackets));
            fault(6, "!" + "(".repeat(brackets));
        }
        fault(5, "(".repeat(40));
        fault(17, "(((((A)))))&((((((A))))))");
        fault(15, "(((((A)&(B))&(((C");
        none("!".repeat(10) + "(!(!(!(!(A)))))");
        none("A&(B|(C^(D&(E|(F)))))");
        fault(17, "A&(B|(C^(D&(E|(F&(A))))))");
        none("(((((A)|B)&C)^D)|E)&F");
    }

    /** Whatever comes behind the fault, the first one counts. */
    private static void firstCharacterThatDoesNotFit() {
        fault(0, "&&&&");
        fault(2, "A&&&");
        fault(1, "A?)(");
        fault(2, "A|?|B");
        fault(1, "AB|");
        fault(4, "A&(B!)|(");
        fault(7, "A&(B|C))&D");
        fault(12, "A&B&C&D&E&F&G&H&?");
        fault(5, "((((((G&H&?");
        fault(3, "A|BC|D|E|F|G|H");
    }

    /** Each beginning of a decision that is none itself has its fault at its length. */
    private static void beginningsOfDecisions() {
        String text = "!(A|B&!C)^((D))|E&A";
        for (int length = 0; length <= text.length(); length++) {
            String beginning = text.substring(0, length);
            boolean isWhole = length == 9 || length == 15 || length == 17 || length == 19;
            if (isWhole) {
                none(beginning);
            } else {
                fault(length, beginning);
            }
        }
        fault(39, "A|".repeat(19) + "(");
        fault(40, "A|".repeat(19) + "((");
        fault(40, "A|".repeat(19) + "(A");
    }

    /** Compared with the model, which tries whether a beginning can be ended. */
    private static void allShortTexts() {
        shortTexts("", "AB!&|^() C", 4);
        shortTexts("", "A!&()", 6);
    }

    private static void shortTexts(String text, String alphabet, int more) {
        MaskedCauses m = new MaskedCauses();
        Model model = new Model();
        m.input(0, 1);
        model.input(0, 1);
        for (int i = 0; i < 2; i++) {
            m.condition(0, 0, -1, i);
            model.condition(0, 0, -1, i);
        }
        for (char c : text.toCharArray()) {
            m.type(c);
            model.type(c);
        }
        CHECKS.due("the fault of \"" + text + "\"", model.decision(true), () -> m.decision(true));
        for (char c : more == 0 ? new char[0] : alphabet.toCharArray()) {
            shortTexts(text + c, alphabet, more - 1);
        }
    }

    private static void fourDecisions() {
        MaskedCauses m = Checks.withEight();
        String[] texts = {"A", "A|B", "A|B|C", "A|B|C|D"};
        for (int d = 0; d < 4; d++) {
            int number = d;
            CHECKS.index("decision " + d + " before it is made", () -> m.conditions(number));
            CHECKS.due("a fault", -2, () -> Checks.decide(m, "A?", true));
            CHECKS.index("a fault makes none", () -> m.conditions(number));
            CHECKS.due("decision " + d, d, () -> Checks.decide(m, texts[number], number % 2 == 0));
        }
        CHECKS.index("decision 4", () -> m.conditions(4));
        for (String text : new String[] {"A", "", "?", "A|"}) {
            CHECKS.state("a fifth of \"" + text + "\"", () -> Checks.decide(m, text, true));
            CHECKS.due("the text stays", text.length(), m::wipe);
        }
        for (int d = 0; d < 4; d++) {
            int number = d;
            CHECKS.due("conditions of decision " + d, d + 1, () -> m.conditions(number));
            CHECKS.due("decision " + d, texts[number], () -> Checks.shown(m, number));
        }
    }

    private static void emptyThen() {
        MaskedCauses m = Checks.withEight();
        CHECKS.due("empty", -1, () -> m.decision(false));
        CHECKS.due("empty then", 0, m::wipe);
        CHECKS.due("a fault at the first place", -1, () -> Checks.decide(m, "?A", false));
        CHECKS.due("empty then", 0, m::wipe);
        CHECKS.due("a fault at the end", -41, () -> Checks.decide(m, "!".repeat(40), false));
        CHECKS.due("empty then", 0, m::wipe);
        CHECKS.due("room then", 0, () -> Checks.decide(m, "!".repeat(39) + "A", false));
        CHECKS.due("empty then", 0, m::wipe);
        CHECKS.due("empty, so no second one", -1, () -> m.decision(false));
        CHECKS.due("the fault is told of the new text", -3, () -> Checks.decide(m, "A|", false));
        CHECKS.due("no more of it", 1, () -> Checks.decide(m, "B", true));
        CHECKS.due("no more of it", "B", () -> Checks.shown(m, 1));
    }

    private static void firstCondition() {
        MaskedCauses m = new MaskedCauses();
        CHECKS.state("no input", () -> Checks.decide(m, "A", true));
        m.input(0, 1);
        m.input(0, 1);
        m.input(0, 1);
        CHECKS.state("inputs, but no condition", () -> m.decision(true));
        CHECKS.argument("a refused condition is none", () -> m.condition(4, 0, -1, 0));
        CHECKS.state("a refused condition is none", () -> m.decision(true));
        m.condition(0, 0, -1, 0);
        CHECKS.due("one condition, the text stayed", 0, () -> m.decision(true));
    }
}
