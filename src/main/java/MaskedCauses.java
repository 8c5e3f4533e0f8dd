/**
 * Tests for decisions: which truth values of their conditions some inputs can give, which two words
 * show that a condition decides by itself, and what recorded vectors show.
 *
 * <p>A set of words is a long whose bit w says whether word w is in it (there are at most 64), and
 * a set of conditions or inputs is an int of the same kind. A decision never changes once it is
 * made, so all that follows from it is found then and only looked up later.
 */
public final class MaskedCauses {
    public static final int NONE = -1;

    private static final int MOST_INPUTS = 3;
    private static final int MOST_CONDITIONS = 8;
    private static final int MOST_DECISIONS = 4;
    private static final int MOST_RECORDED = 12;
    private static final int MOST_CHARACTERS = 40;
    private static final int MOST_OWN = 6;
    private static final int MOST_WORDS = 64;
    private static final int MOST_OWN_FOR_LEAST = 4;
    private static final int MOST_WORDS_FOR_LEAST = 16;
    private static final int DEEPEST = 6;
    private static final int LEAST_INPUT = -20;
    private static final int GREATEST_INPUT = 20;
    private static final int WIDEST = 40;
    private static final int GREATEST_LIMIT = 50;
    private static final int PAIR_STEP = 100;

    private static final int AT_MOST = 0;
    private static final int LESS = 1;
    private static final int SAME = 2;
    private static final int OTHER = 3;

    private static final int UNIQUE = 0;
    private static final int MASKING = 1;
    private static final int COUPLED = 2;

    // A joint binds the more tightly the greater its number; the first four are places in SIGNS.
    private static final int OR = 0;
    private static final int XOR = 1;
    private static final int AND = 2;
    private static final int NOT = 3;
    private static final int LEAF = 4;
    private static final String SIGNS = "|^&!";

    private static final long ALL_WORDS = -1L;

    /** For each condition of a decision the words in which it is true. */
    private static final long[] TRUE_WORDS = {
        0xAAAAAAAAAAAAAAAAL, 0xCCCCCCCCCCCCCCCCL, 0xF0F0F0F0F0F0F0F0L,
        0xFF00FF00FF00FF00L, 0xFFFF0000FFFF0000L, 0xFFFFFFFF00000000L
    };

    private final Inputs inputs;
    private final Conditions conditions;
    private final Line text;
    private final Tree tree;
    private final Reader reader;
    private final Walk walk;
    private final Decision[] decisions;
    private final Suite suite;
    private final Fewest fewest;
    private final Records records;
    private int decisionCount;
    private Line page;

    public MaskedCauses() {
        inputs = new Inputs();
        conditions = new Conditions();
        text = new Line();
        tree = new Tree();
        reader = new Reader(text, tree);
        walk = new Walk(inputs, conditions);
        decisions = new Decision[MOST_DECISIONS];
        for (int d = 0; d < MOST_DECISIONS; d++) {
            decisions[d] = new Decision(conditions);
        }
        suite = new Suite();
        fewest = new Fewest();
        records = new Records();
        decisionCount = 0;
        page = new Line();
    }

    public int input(int low, int high) throws IllegalStateException, IllegalArgumentException {
        if (inputs.isFull() || conditions.size() > 0) {
            throw new IllegalStateException();
        }
        if (low < LEAST_INPUT || low > high || high > GREATEST_INPUT) {
            throw new IllegalArgumentException();
        }
        return inputs.add(low, high);
    }

    public int condition(int kind, int a, int b, int k)
            throws IllegalStateException, IndexOutOfBoundsException, IllegalArgumentException {
        if (conditions.isFull()) {
            throw new IllegalStateException();
        }
        if (!inputs.has(a) || !(b == NONE || inputs.has(b))) {
            throw new IndexOutOfBoundsException();
        }
        if (kind < AT_MOST || kind > OTHER || k < -GREATEST_LIMIT || k > GREATEST_LIMIT || a == b) {
            throw new IllegalArgumentException();
        }
        return conditions.add(kind, a, b, k);
    }

    public boolean type(char c) {
        return c >= 32 && c <= 126 && text.put(c);
    }

    public int wipe() {
        return text.clear();
    }

    public int decision(boolean isShort) throws IllegalStateException {
        if (decisionCount == MOST_DECISIONS || conditions.size() == 0) {
            throw new IllegalStateException();
        }
        int fault = reader.read(conditions.size());
        text.clear();
        if (fault != NONE) {
            return -1 - fault;
        }
        Decision made = decisions[decisionCount];
        made.take(tree, isShort);
        walk.findWords(made);
        decisionCount++;
        return decisionCount - 1;
    }

    public int conditions(int decision) throws IndexOutOfBoundsException {
        return decisionAt(decision).size();
    }

    public int show(int decision) throws IndexOutOfBoundsException {
        page = decisionAt(decision).shown();
        return page.size();
    }

    public int feasible(int decision) throws IndexOutOfBoundsException {
        return Long.bitCount(decisionAt(decision).feasibleWords());
    }

    public int vector(int decision, int word, int x)
            throws IndexOutOfBoundsException, IllegalStateException {
        Decision asked = decisionWithWord(decision, word);
        if (!inputs.has(x)) {
            throw new IndexOutOfBoundsException();
        }
        if (!contains(asked.feasibleWords(), word)) {
            throw new IllegalStateException();
        }
        return asked.valueFor(word, x);
    }

    public boolean outcome(int decision, int word) throws IndexOutOfBoundsException {
        return contains(decisionWithWord(decision, word).trueWords(), word);
    }

    public boolean evaluated(int decision, int word, int condition)
            throws IndexOutOfBoundsException {
        Decision asked = decisionWithWord(decision, word);
        checkCondition(asked, condition);
        return contains(asked.evaluatingWords(condition), word);
    }

    public int solve(int decision, int condition, int criterion)
            throws IndexOutOfBoundsException, IllegalArgumentException {
        Decision asked = decisionAt(decision);
        checkCondition(asked, condition);
        checkCriterion(criterion);
        return asked.pairFor(condition, criterion);
    }

    public int suite(int decision, int criterion)
            throws IndexOutOfBoundsException, IllegalArgumentException {
        Decision asked = decisionAt(decision);
        checkCriterion(criterion);
        return suite.fill(asked, criterion);
    }

    public int suiteAt(int i) {
        return suite.wordAt(i);
    }

    public int least(int decision, int criterion)
            throws IndexOutOfBoundsException, IllegalArgumentException {
        Decision asked = decisionAt(decision);
        checkCriterion(criterion);
        return asked.size() > MOST_OWN_FOR_LEAST ? NONE : fewest.count(asked, criterion);
    }

    public int keep(int x, int y, int z) throws IllegalStateException, IllegalArgumentException {
        if (records.isFull() || conditions.size() == 0) {
            throw new IllegalStateException();
        }
        if (!inputs.fits(0, x) || !inputs.fits(1, y) || !inputs.fits(2, z)) {
            throw new IllegalArgumentException();
        }
        return records.add(x, y, z);
    }

    public int forget() {
        return records.clear();
    }

    public boolean covered(int decision, int condition, int criterion)
            throws IndexOutOfBoundsException, IllegalArgumentException {
        Decision asked = decisionAt(decision);
        checkCondition(asked, condition);
        checkCriterion(criterion);
        return asked.isShownWithin(records.wordsOf(asked), condition, criterion);
    }

    public int missing(int decision, int criterion)
            throws IndexOutOfBoundsException, IllegalArgumentException {
        Decision asked = decisionAt(decision);
        checkCriterion(criterion);
        long recorded = records.wordsOf(asked);
        for (int i = 0; i < asked.size(); i++) {
            if (asked.isSolved(i, criterion) && !asked.isShownWithin(recorded, i, criterion)) {
                return i;
            }
        }
        return NONE;
    }

    public int length() {
        return page.size();
    }

    public char charAt(int p) {
        return page.at(p);
    }

    private Decision decisionAt(int number) {
        if (number < 0 || number >= decisionCount) {
            throw new IndexOutOfBoundsException();
        }
        return decisions[number];
    }

    private Decision decisionWithWord(int number, int word) {
        Decision asked = decisionAt(number);
        if (word < 0 || word >= asked.wordCount()) {
            throw new IndexOutOfBoundsException();
        }
        return asked;
    }

    private static void checkCondition(Decision asked, int condition) {
        if (condition < 0 || condition >= asked.size()) {
            throw new IndexOutOfBoundsException();
        }
    }

    private static void checkCriterion(int criterion) {
        if (criterion < UNIQUE || criterion > COUPLED) {
            throw new IllegalArgumentException();
        }
    }

    private static boolean contains(long words, int word) {
        return (words >>> word & 1L) != 0L;
    }

    private static boolean hasBit(int set, int member) {
        return (set >>> member & 1) != 0;
    }

    /** The inputs with their ranges. One that there is not has the range 0 .. 0. */
    private static final class Inputs {
        private final int[] low = new int[MOST_INPUTS];
        private final int[] high = new int[MOST_INPUTS];
        private int count = 0;

        boolean isFull() {
            return count == MOST_INPUTS;
        }

        boolean has(int input) {
            return input >= 0 && input < count;
        }

        int add(int lowest, int highest) {
            low[count] = lowest;
            high[count] = highest;
            count++;
            return count - 1;
        }

        int lowOf(int input) {
            return low[input];
        }

        int highOf(int input) {
            return high[input];
        }

        boolean fits(int input, int value) {
            return !has(input) || value >= low[input] && value <= high[input];
        }
    }

    /** The conditions: each compares a difference, of input a and input b or nothing, with k. */
    private static final class Conditions {
        private final int[] kinds = new int[MOST_CONDITIONS];
        private final int[] firsts = new int[MOST_CONDITIONS];
        private final int[] seconds = new int[MOST_CONDITIONS];
        private final int[] limits = new int[MOST_CONDITIONS];
        private int count = 0;

        boolean isFull() {
            return count == MOST_CONDITIONS;
        }

        int size() {
            return count;
        }

        int add(int kind, int first, int second, int limit) {
            kinds[count] = kind;
            firsts[count] = first;
            seconds[count] = second;
            limits[count] = limit;
            count++;
            return count - 1;
        }

        int firstOf(int letter) {
            return firsts[letter];
        }

        int secondOf(int letter) {
            return seconds[letter];
        }

        int inputsOf(int letter) {
            int second = seconds[letter] == NONE ? 0 : 1 << seconds[letter];
            return 1 << firsts[letter] | second;
        }

        boolean holds(int letter, int difference) {
            int limit = limits[letter];
            switch (kinds[letter]) {
                case AT_MOST:
                    return difference <= limit;
                case LESS:
                    return difference < limit;
                case SAME:
                    return difference == limit;
                default:
                    return difference != limit;
            }
        }

        /** Whether a condition holds for the vector that begins at a place of a row. */
        boolean holdsFor(int letter, int[] row, int start) {
            int second = seconds[letter] == NONE ? 0 : row[start + seconds[letter]];
            return holds(letter, row[start + firsts[letter]] - second);
        }
    }

    /** A line of characters, as long as the text may be. */
    private static final class Line {
        private final char[] characters = new char[MOST_CHARACTERS];
        private int count = 0;

        boolean put(char c) {
            if (count == MOST_CHARACTERS) {
                return false;
            }
            characters[count] = c;
            count++;
            return true;
        }

        int clear() {
            int had = count;
            count = 0;
            return had;
        }

        int size() {
            return count;
        }

        char at(int place) {
            return place >= 0 && place < count ? characters[place] : ' ';
        }
    }

    /**
     * What was read: a node for each letter and sign of the text, so that the text's room is
     * enough. A node stands behind its parts, and the last one is the whole.
     */
    private static final class Tree {
        private final int[] joints = new int[MOST_CHARACTERS];
        private final int[] lefts = new int[MOST_CHARACTERS];
        private final int[] rights = new int[MOST_CHARACTERS];
        private final long[] truths = new long[MOST_CHARACTERS];
        private final long[] reached = new long[MOST_CHARACTERS];
        private int count = 0;
        private int letters = 0;

        void clear() {
            count = 0;
            letters = 0;
        }

        int letters() {
            return letters;
        }

        int addLeaf(int letter) {
            letters |= 1 << letter;
            return add(LEAF, letter, NONE);
        }

        int add(int joint, int left, int right) {
            if (count == MOST_CHARACTERS) {
                return NONE;
            }
            joints[count] = joint;
            lefts[count] = left;
            rights[count] = right;
            count++;
            return count - 1;
        }

        /** The words for which the whole is true. */
        long findTruths() {
            for (int node = 0; node < count; node++) {
                truths[node] = truthOf(node);
            }
            return count == 0 ? 0L : truths[count - 1];
        }

        private long truthOf(int node) {
            if (joints[node] == LEAF) {
                return TRUE_WORDS[numberOf(lefts[node])];
            }
            long left = truths[lefts[node]];
            switch (joints[node]) {
                case NOT:
                    return ~left;
                case AND:
                    return left & truths[rights[node]];
                case XOR:
                    return left ^ truths[rights[node]];
                default:
                    return left | truths[rights[node]];
            }
        }

        /** A letter's number among the conditions of this decision. */
        private int numberOf(int letter) {
            return Integer.bitCount(letters & (1 << letter) - 1);
        }

        /** Adds to each condition's row the words that evaluate it; the truths are found already. */
        void findReached(boolean isShort, long[] evaluating) {
            for (int node = count - 1; node >= 0; node--) {
                if (node == count - 1) {
                    reached[node] = ALL_WORDS;
                }
                if (joints[node] == LEAF) {
                    evaluating[numberOf(lefts[node])] |= reached[node];
                } else {
                    reachParts(node, isShort);
                }
            }
        }

        private void reachParts(int node, boolean isShort) {
            reached[lefts[node]] = reached[node];
            if (joints[node] != NOT) {
                long open = isShort ? undecided(node) : ALL_WORDS;
                reached[rights[node]] = reached[node] & open;
            }
        }

        /** The words for which what stands before the sign has not decided. */
        private long undecided(int node) {
            long left = truths[lefts[node]];
            switch (joints[node]) {
                case AND:
                    return left;
                case OR:
                    return ~left;
                default:
                    return ALL_WORDS;
            }
        }

        void writeOn(Line line) {
            line.clear();
            if (count > 0) {
                write(count - 1, OR, line, MOST_CHARACTERS);
            }
        }

        /** A path down the tree has no more nodes than the text has characters. */
        private void write(int node, int jointAbove, Line line, int levelsLeft) {
            if (levelsLeft == 0) {
                return;
            }
            int joint = joints[node];
            boolean isWrapped = joint < jointAbove;
            if (isWrapped) {
                line.put('(');
            }
            if (joint == LEAF) {
                line.put((char) ('A' + lefts[node]));
            } else if (joint == NOT) {
                line.put(SIGNS.charAt(NOT));
                write(lefts[node], joint, line, levelsLeft - 1);
            } else {
                write(lefts[node], joint, line, levelsLeft - 1);
                line.put(SIGNS.charAt(joint));
                write(rights[node], joint, line, levelsLeft - 1);
            }
            if (isWrapped) {
                line.put(')');
            }
        }
    }

    /**
     * Reads the text into the tree. Whatever has been read without a fault can still be ended as a
     * decision, so the first character that does not fit is the fault.
     */
    private static final class Reader {
        private final Line text;
        private final Tree tree;
        private int known = 0;
        private int place = 0;
        private int fault = NONE;

        Reader(Line text, Tree tree) {
            this.text = text;
            this.tree = tree;
        }

        /** The fault, or NONE: then the tree is the decision. */
        int read(int conditionCount) {
            known = conditionCount;
            place = 0;
            fault = NONE;
            tree.clear();
            readJoined(OR, 1);
            if (fault == NONE && place < text.size()) {
                fault = place;
            }
            return fault;
        }

        private int readJoined(int joint, int depth) {
            if (joint == NOT) {
                return readOne(depth);
            }
            int node = readJoined(joint + 1, depth);
            while (fault == NONE && place < text.size() && text.at(place) == SIGNS.charAt(joint)) {
                place++;
                int right = readJoined(joint + 1, depth);
                node = tree.add(joint, node, right);
            }
            return node;
        }

        private int readOne(int depth) {
            int nots = 0;
            while (place < text.size() && text.at(place) == SIGNS.charAt(NOT)) {
                place++;
                nots++;
            }
            int node = text.at(place) == '(' ? readInner(depth) : readLetter();
            for (int i = 0; i < nots; i++) {
                node = tree.add(NOT, node, NONE);
            }
            return node;
        }

        private int readInner(int depth) {
            if (depth == DEEPEST) {
                fault = place;
                return NONE;
            }
            place++;
            int node = readJoined(OR, depth + 1);
            if (fault == NONE && text.at(place) != ')') {
                fault = place;
            }
            place++;
            return node;
        }

        private int readLetter() {
            int letter = text.at(place) - 'A';
            if (letter < 0 || letter >= known || isOneTooMany(letter)) {
                fault = place;
                return NONE;
            }
            place++;
            return tree.addLeaf(letter);
        }

        private boolean isOneTooMany(int letter) {
            return Integer.bitCount(tree.letters() | 1 << letter) > MOST_OWN;
        }
    }

    /** A decision: its words, and what they say about its conditions. */
    private static final class Decision {
        private final Conditions conditions;
        private final Line shown = new Line();
        private final int[] letters = new int[MOST_OWN];
        private final int[] strangers = new int[MOST_OWN];
        private final long[] evaluating = new long[MOST_OWN];
        private final long[] decisive = new long[MOST_OWN];
        private final int[] vectors = new int[MOST_WORDS * MOST_INPUTS];
        private int count = 0;
        private long trueWords = 0L;
        private long feasibleWords = 0L;

        Decision(Conditions conditions) {
            this.conditions = conditions;
        }

        void take(Tree tree, boolean isShort) {
            takeLetters(tree.letters());
            tree.writeOn(shown);
            trueWords = tree.findTruths();
            tree.findReached(isShort, evaluating);
            for (int i = 0; i < count; i++) {
                decisive[i] = trueWords ^ turned(trueWords, i);
                strangers[i] = strangersOf(i);
            }
        }

        private void takeLetters(int set) {
            for (int letter = 0; letter < MOST_CONDITIONS; letter++) {
                if (hasBit(set, letter) && count < MOST_OWN) {
                    letters[count] = letter;
                    count++;
                }
            }
        }

        /** The words that are in the set once a condition of theirs is turned round. */
        private static long turned(long words, int condition) {
            long holding = TRUE_WORDS[condition];
            int step = 1 << condition;
            return (words & holding) >>> step | (words & ~holding) << step;
        }

        /** The conditions that have no input in common with one. */
        private int strangersOf(int condition) {
            int own = conditions.inputsOf(letters[condition]);
            int found = 0;
            for (int i = 0; i < count; i++) {
                if ((conditions.inputsOf(letters[i]) & own) == 0) {
                    found |= 1 << i;
                }
            }
            return found;
        }

        int size() {
            return count;
        }

        int wordCount() {
            return 1 << count;
        }

        int letterOf(int condition) {
            return letters[condition];
        }

        Line shown() {
            return shown;
        }

        long trueWords() {
            return trueWords;
        }

        long feasibleWords() {
            return feasibleWords;
        }

        long evaluatingWords(int condition) {
            return evaluating[condition];
        }

        int valueFor(int word, int input) {
            return vectors[word * MOST_INPUTS + input];
        }

        /** A vector gives a word; the first one that does stays. */
        void meet(int word, int x, int y, int z) {
            if (!contains(feasibleWords, word)) {
                feasibleWords |= 1L << word;
                int start = word * MOST_INPUTS;
                vectors[start] = x;
                vectors[start + 1] = y;
                vectors[start + 2] = z;
            }
        }

        /** The word that the vector gives which begins at a place of a row. */
        int wordFor(int[] row, int start) {
            int word = 0;
            for (int i = 0; i < count; i++) {
                if (conditions.holdsFor(letters[i], row, start)) {
                    word |= 1 << i;
                }
            }
            return word;
        }

        int pairFor(int condition, int criterion) {
            return pairWithin(feasibleWords, condition, criterion);
        }

        boolean isSolved(int condition, int criterion) {
            return pairFor(condition, criterion) != NONE;
        }

        boolean isShownWithin(long words, int condition, int criterion) {
            return pairWithin(words, condition, criterion) != NONE;
        }

        /** The first two of some words that show a condition, as solve answers them. */
        private int pairWithin(long words, int condition, int criterion) {
            for (int lesser = 0; lesser < wordCount(); lesser++) {
                if (contains(words, lesser)) {
                    long partners = words & partnersOf(lesser, condition, criterion);
                    for (int greater = lesser + 1; partners != 0L && greater < wordCount(); greater++) {
                        if (contains(partners, greater)) {
                            return PAIR_STEP * lesser + greater;
                        }
                    }
                }
            }
            return NONE;
        }

        /** The words that show a condition together with this one. */
        long partnersOf(int word, int condition, int criterion) {
            long able = feasibleWords & evaluating[condition];
            if (criterion != UNIQUE) {
                able &= decisive[condition];
            }
            if (!contains(able, word)) {
                return 0L;
            }
            long found = able & ~likeWord(TRUE_WORDS[condition], word) & ~likeWord(trueWords, word);
            int held = heldFor(condition, criterion);
            for (int i = 0; i < count; i++) {
                if (hasBit(held, i) && contains(evaluating[i], word)) {
                    found &= ~evaluating[i] | likeWord(TRUE_WORDS[i], word);
                }
            }
            return found;
        }

        /** The words that are in the set if this word is, and that are not if it is not. */
        private static long likeWord(long words, int word) {
            return contains(words, word) ? words : ~words;
        }

        /** The other conditions whose truth must be the same in both words that evaluate them. */
        private int heldFor(int condition, int criterion) {
            switch (criterion) {
                case UNIQUE:
                    return ~(1 << condition);
                case MASKING:
                    return 0;
                default:
                    return strangers[condition];
            }
        }
    }

    /**
     * Finds the feasible words of a decision by going through all vectors. There may be 68,921 of
     * them, so the truth of the conditions is looked up by difference, for all of them at once.
     */
    private static final class Walk {
        // Stands for the input that a condition without a second one subtracts: always 0.
        private static final int GROUND = MOST_INPUTS;
        // One for each two of the three inputs and the ground.
        private static final int ROWS = 6;

        private final Inputs inputs;
        private final Conditions conditions;
        private final int[][] bits = new int[ROWS][2 * WIDEST + 1];

        Walk(Inputs inputs, Conditions conditions) {
            this.inputs = inputs;
            this.conditions = conditions;
        }

        void findWords(Decision decision) {
            fillBits(decision);
            for (int x = inputs.lowOf(0); x <= inputs.highOf(0); x++) {
                int wordX = bitsFor(0, GROUND, x);
                for (int y = inputs.lowOf(1); y <= inputs.highOf(1); y++) {
                    int wordXY = wordX | bitsFor(1, GROUND, y) | bitsFor(0, 1, x - y);
                    for (int z = inputs.lowOf(2); z <= inputs.highOf(2); z++) {
                        int wordZ = bitsFor(2, GROUND, z) | bitsFor(0, 2, x - z) | bitsFor(1, 2, y - z);
                        decision.meet(wordXY | wordZ, x, y, z);
                    }
                }
            }
        }

        private void fillBits(Decision decision) {
            for (int row = 0; row < bits.length; row++) {
                for (int i = 0; i < bits[row].length; i++) {
                    bits[row][i] = 0;
                }
            }
            for (int i = 0; i < decision.size(); i++) {
                enter(decision.letterOf(i), 1 << i);
            }
        }

        /** Rows are kept for a lesser input minus a greater one alone; others are turned round. */
        private void enter(int letter, int bit) {
            int first = conditions.firstOf(letter);
            int second = conditions.secondOf(letter) == NONE ? GROUND : conditions.secondOf(letter);
            boolean isTurned = second < first;
            int row = isTurned ? rowOf(second, first) : rowOf(first, second);
            for (int difference = -WIDEST; difference <= WIDEST; difference++) {
                if (conditions.holds(letter, difference)) {
                    bits[row][WIDEST + (isTurned ? -difference : difference)] |= bit;
                }
            }
        }

        private int bitsFor(int lesser, int greater, int difference) {
            return bits[rowOf(lesser, greater)][WIDEST + difference];
        }

        private static int rowOf(int lesser, int greater) {
            return greater * (greater - 1) / 2 + lesser;
        }
    }

    /** The suite that was asked for last. */
    private static final class Suite {
        private final int[] words = new int[2 * MOST_OWN];
        private int count = 0;
        private long set = 0L;

        int fill(Decision decision, int criterion) {
            count = 0;
            set = 0L;
            for (int i = 0; i < decision.size(); i++) {
                int pair = decision.pairFor(i, criterion);
                if (pair != NONE && !decision.isShownWithin(set, i, criterion)) {
                    add(pair / PAIR_STEP);
                    add(pair % PAIR_STEP);
                }
            }
            return count;
        }

        private void add(int word) {
            if (!contains(set, word) && count < words.length) {
                words[count] = word;
                count++;
                set |= 1L << word;
            }
        }

        int wordAt(int place) {
            return place >= 0 && place < count ? words[place] : NONE;
        }
    }

    /** Finds the least number of words by trying all sets of 0, 1, 2 .. feasible words. */
    private static final class Fewest {
        private final long[] partners = new long[MOST_OWN_FOR_LEAST * MOST_WORDS_FOR_LEAST];
        private int conditionCount = 0;
        private int wordCount = 0;
        private long feasibleWords = 0L;
        private int solved = 0;

        /** For decisions with no more conditions than MOST_OWN_FOR_LEAST. */
        int count(Decision decision, int criterion) {
            conditionCount = Math.min(decision.size(), MOST_OWN_FOR_LEAST);
            wordCount = 1 << conditionCount;
            feasibleWords = decision.feasibleWords();
            solved = 0;
            for (int i = 0; i < conditionCount; i++) {
                findPartners(decision, i, criterion);
            }
            for (int words = 0; words < wordCount; words++) {
                if (isEnough(0L, 0, words)) {
                    return words;
                }
            }
            return wordCount;
        }

        private void findPartners(Decision decision, int condition, int criterion) {
            for (int word = 0; word < wordCount; word++) {
                long found = decision.partnersOf(word, condition, criterion);
                partners[condition * MOST_WORDS_FOR_LEAST + word] = found;
                if (found != 0L) {
                    solved |= 1 << condition;
                }
            }
        }

        /** Whether the chosen words, with just so many more from a word on, show all there is. */
        private boolean isEnough(long chosen, int from, int more) {
            if (more == 0) {
                return showsAll(chosen);
            }
            for (int word = from; word < wordCount; word++) {
                if (contains(feasibleWords, word)
                        && isEnough(chosen | 1L << word, word + 1, more - 1)) {
                    return true;
                }
            }
            return false;
        }

        private boolean showsAll(long chosen) {
            for (int i = 0; i < conditionCount; i++) {
                if (hasBit(solved, i) && !showsOne(chosen, i)) {
                    return false;
                }
            }
            return true;
        }

        private boolean showsOne(long chosen, int condition) {
            for (int word = 0; word < wordCount; word++) {
                long found = partners[condition * MOST_WORDS_FOR_LEAST + word];
                if (contains(chosen, word) && (found & chosen) != 0L) {
                    return true;
                }
            }
            return false;
        }
    }

    /** The recorded vectors, one behind the other in one row. */
    private static final class Records {
        private final int[] row = new int[MOST_RECORDED * MOST_INPUTS];
        private int count = 0;

        boolean isFull() {
            return count == MOST_RECORDED;
        }

        int add(int x, int y, int z) {
            int start = count * MOST_INPUTS;
            row[start] = x;
            row[start + 1] = y;
            row[start + 2] = z;
            count++;
            return count;
        }

        int clear() {
            int had = count;
            count = 0;
            return had;
        }

        /** The words of a decision that the recorded vectors give. */
        long wordsOf(Decision decision) {
            long words = 0L;
            for (int i = 0; i < count; i++) {
                words |= 1L << decision.wordFor(row, i * MOST_INPUTS);
            }
            return words;
        }
    }
}
