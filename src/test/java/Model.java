import java.util.ArrayList;
import java.util.List;

/**
 * The document done as slowly and as literally as possible, by other means than the program: texts
 * are cut in strings, words are tried one by one, and nothing is kept but what was told.
 */
final class Model {
    private static final class Result {
        boolean value;
    }

    private static final class Made {
        String text;
        boolean isShort;
        List<Integer> letters;
        int[][] vectors;
        boolean[] outcome;
        boolean[][] evaluated;

        int words() {
            return 1 << letters.size();
        }
    }

    private final List<int[]> inputs = new ArrayList<>();
    private final List<int[]> conditions = new ArrayList<>();
    private final List<Made> decisions = new ArrayList<>();
    private final List<int[]> recorded = new ArrayList<>();
    private List<Integer> lastSuite = new ArrayList<>();
    private String text = "";
    private String page = "";

    int input(int low, int high) {
        if (inputs.size() == 3 || !conditions.isEmpty()) {
            throw new IllegalStateException();
        }
        if (!(-20 <= low && low <= high && high <= 20)) {
            throw new IllegalArgumentException();
        }
        inputs.add(new int[] {low, high});
        return inputs.size() - 1;
    }

    int condition(int kind, int a, int b, int k) {
        if (conditions.size() == 8) {
            throw new IllegalStateException();
        }
        if (a < 0 || a >= inputs.size() || b < -1 || b >= inputs.size()) {
            throw new IndexOutOfBoundsException();
        }
        if (kind < 0 || kind > 3 || k < -50 || k > 50 || a == b) {
            throw new IllegalArgumentException();
        }
        conditions.add(new int[] {kind, a, b, k});
        return conditions.size() - 1;
    }

    boolean type(char c) {
        if (c < 32 || c > 126 || text.length() == 40) {
            return false;
        }
        text += c;
        return true;
    }

    int wipe() {
        int had = text.length();
        text = "";
        return had;
    }

    int decision(boolean isShort) {
        if (decisions.size() == 4 || conditions.isEmpty()) {
            throw new IllegalStateException();
        }
        String read = text;
        text = "";
        for (int end = 1; end <= read.length(); end++) {
            if (!isBeginning(read.substring(0, end))) {
                return -1 - (end - 1);
            }
        }
        if (!isWhole(read)) {
            return -1 - read.length();
        }
        decisions.add(make(read, isShort));
        return decisions.size() - 1;
    }

    /** A beginning can be ended by one letter that it has, or A, at the most, and the ) that lack. */
    private boolean isBeginning(String beginning) {
        String letter = "A";
        for (char c : beginning.toCharArray()) {
            letter = Character.isLetter(c) ? "" + c : letter;
        }
        int open = beginning.replace(")", "").length() - beginning.replace("(", "").length();
        String closing = ")".repeat(Math.max(0, open));
        return isWhole(beginning + closing) || isWhole(beginning + letter + closing);
    }

    /** By taking away: what is a one becomes a letter, until a chain of letters is left. */
    private boolean isWhole(String whole) {
        int known = conditions.size();
        int deep = 1;
        int deepest = 1;
        for (char c : whole.toCharArray()) {
            boolean isLetter = c >= 'A' && c < 'A' + known;
            if (!isLetter && "()!&^|".indexOf(c) < 0) {
                return false;
            }
            deep += c == '(' ? 1 : c == ')' ? -1 : 0;
            deepest = Math.max(deepest, deep);
        }
        if (deepest > 6 || lettersOf(whole).size() > 6) {
            return false;
        }
        String before = "";
        String left = whole.replaceAll("[A-H]", "x");
        while (!left.equals(before)) {
            before = left;
            left = left.replaceAll("!x", "x").replaceAll("\\(x([&^|]x)*\\)", "x");
        }
        return left.matches("x([&^|]x)*") && noTwoLetters(whole);
    }

    private static boolean noTwoLetters(String whole) {
        return !whole.matches(".*[A-H)][A-H(!].*");
    }

    private static List<Integer> lettersOf(String whole) {
        List<Integer> letters = new ArrayList<>();
        for (int letter = 0; letter < 8; letter++) {
            if (whole.indexOf('A' + letter) >= 0) {
                letters.add(letter);
            }
        }
        return letters;
    }

    private Made make(String read, boolean isShort) {
        Made made = new Made();
        made.text = read;
        made.isShort = isShort;
        made.letters = lettersOf(read);
        made.vectors = new int[made.words()][];
        made.outcome = new boolean[made.words()];
        made.evaluated = new boolean[made.words()][made.letters.size()];
        findVectors(made);
        for (int word = 0; word < made.words(); word++) {
            made.outcome[word] = value(made, made.text, word, made.evaluated[word]).value;
            for (int i = 0; !isShort && i < made.letters.size(); i++) {
                made.evaluated[word][i] = true;
            }
        }
        return made;
    }

    private void findVectors(Made made) {
        int[][] range = {{0, 0}, {0, 0}, {0, 0}};
        for (int i = 0; i < inputs.size(); i++) {
            range[i] = inputs.get(i);
        }
        for (int x = range[0][0]; x <= range[0][1]; x++) {
            for (int y = range[1][0]; y <= range[1][1]; y++) {
                for (int z = range[2][0]; z <= range[2][1]; z++) {
                    int[] vector = {x, y, z};
                    int word = wordOf(made, vector);
                    if (made.vectors[word] == null) {
                        made.vectors[word] = vector;
                    }
                }
            }
        }
    }

    private int wordOf(Made made, int[] vector) {
        int word = 0;
        for (int i = 0; i < made.letters.size(); i++) {
            int[] c = conditions.get(made.letters.get(i));
            int d = vector[c[1]];
            if (c[2] >= 0) {
                d -= vector[c[2]];
            }
            boolean[] holds = {d <= c[3], d < c[3], d == c[3], d != c[3]};
            word += holds[c[0]] ? 1 << i : 0;
        }
        return word;
    }

    /** Cuts a text at a sign where no bracket is open. */
    private static List<String> cut(String whole, char sign) {
        List<String> parts = new ArrayList<>();
        int open = 0;
        int start = 0;
        for (int p = 0; p < whole.length(); p++) {
            char c = whole.charAt(p);
            open += c == '(' ? 1 : c == ')' ? -1 : 0;
            if (c == sign && open == 0) {
                parts.add(whole.substring(start, p));
                start = p + 1;
            }
        }
        parts.add(whole.substring(start));
        return parts;
    }

    private Result value(Made made, String part, int word, boolean[] evaluated) {
        Result result = new Result();
        for (char sign : "|^&".toCharArray()) {
            List<String> parts = cut(part, sign);
            if (parts.size() > 1) {
                boolean all = value(made, parts.get(0), word, evaluated).value;
                for (String next : parts.subList(1, parts.size())) {
                    if (made.isShort && (sign == '|' && all || sign == '&' && !all)) {
                        break;
                    }
                    boolean one = value(made, next, word, evaluated).value;
                    all = sign == '|' ? all | one : sign == '&' ? all & one : all ^ one;
                }
                result.value = all;
                return result;
            }
        }
        if (part.charAt(0) == '!') {
            result.value = !value(made, part.substring(1), word, evaluated).value;
        } else if (part.charAt(0) == '(') {
            result.value = value(made, part.substring(1, part.length() - 1), word, evaluated).value;
        } else {
            int i = made.letters.indexOf(part.charAt(0) - 'A');
            evaluated[i] = true;
            result.value = (word >> i) % 2 == 1;
        }
        return result;
    }

    /** A part without the brackets right around it. */
    private static String bare(String part) {
        String bare = part;
        while (bare.charAt(0) == '(' && cut(bare, '|').size() + cut(bare, '^').size()
                + cut(bare, '&').size() == 3) {
            bare = bare.substring(1, bare.length() - 1);
        }
        return bare;
    }

    private static char jointOf(String bare) {
        for (char sign : "|^&".toCharArray()) {
            if (cut(bare, sign).size() > 1) {
                return sign;
            }
        }
        return bare.charAt(0) == '!' ? '!' : 'x';
    }

    private static String show(String whole, char above) {
        String bare = bare(whole);
        char joint = jointOf(bare);
        StringBuilder out = new StringBuilder();
        if (joint == 'x') {
            return bare;
        }
        if (joint == '!') {
            return "!" + show(bare.substring(1), '!');
        }
        for (String part : cut(bare, joint)) {
            out.append(out.length() == 0 ? "" : "" + joint).append(show(part, joint));
        }
        boolean isWrapped = joint == '|' && "^&!".indexOf(above) >= 0
                || joint == '^' && "&!".indexOf(above) >= 0
                || joint == '&' && above == '!';
        return isWrapped ? "(" + out + ")" : out.toString();
    }

    private Made at(int decision) {
        if (decision < 0 || decision >= decisions.size()) {
            throw new IndexOutOfBoundsException();
        }
        return decisions.get(decision);
    }

    private Made at(int decision, int word) {
        Made made = at(decision);
        if (word < 0 || word >= made.words()) {
            throw new IndexOutOfBoundsException();
        }
        return made;
    }

    private static void look(Made made, int condition) {
        if (condition < 0 || condition >= made.letters.size()) {
            throw new IndexOutOfBoundsException();
        }
    }

    private static void look(int criterion) {
        if (criterion < 0 || criterion > 2) {
            throw new IllegalArgumentException();
        }
    }

    int conditions(int decision) {
        return at(decision).letters.size();
    }

    int show(int decision) {
        page = show(at(decision).text, ' ');
        return page.length();
    }

    int feasible(int decision) {
        int count = 0;
        for (int[] vector : at(decision).vectors) {
            count += vector == null ? 0 : 1;
        }
        return count;
    }

    int vector(int decision, int word, int x) {
        Made made = at(decision, word);
        if (x < 0 || x >= inputs.size()) {
            throw new IndexOutOfBoundsException();
        }
        if (made.vectors[word] == null) {
            throw new IllegalStateException();
        }
        return made.vectors[word][x];
    }

    boolean outcome(int decision, int word) {
        return at(decision, word).outcome[word];
    }

    boolean evaluated(int decision, int word, int condition) {
        Made made = at(decision, word);
        look(made, condition);
        return made.evaluated[word][condition];
    }

    private boolean doShow(Made made, int u, int v, int i, int criterion) {
        int bit = 1 << i;
        if (made.vectors[u] == null || made.vectors[v] == null || !made.evaluated[u][i]
                || !made.evaluated[v][i] || (u & bit) == (v & bit)
                || made.outcome[u] == made.outcome[v]) {
            return false;
        }
        if (criterion > 0 && (made.outcome[u ^ bit] == made.outcome[u]
                || made.outcome[v ^ bit] == made.outcome[v])) {
            return false;
        }
        for (int j = 0; j < made.letters.size(); j++) {
            boolean counts = criterion == 0 || criterion == 2 && !haveInputInCommon(made, i, j);
            boolean differs = (u >> j & 1) != (v >> j & 1);
            if (j != i && counts && differs && made.evaluated[u][j] && made.evaluated[v][j]) {
                return false;
            }
        }
        return true;
    }

    private boolean haveInputInCommon(Made made, int i, int j) {
        int[] c = conditions.get(made.letters.get(i));
        int[] d = conditions.get(made.letters.get(j));
        return c[1] == d[1] || c[1] == d[2] || c[2] == d[1] || c[2] == d[2] && c[2] >= 0;
    }

    private int pair(Made made, int i, int criterion) {
        for (int u = 0; u < made.words(); u++) {
            for (int v = u + 1; v < made.words(); v++) {
                if (doShow(made, u, v, i, criterion)) {
                    return 100 * u + v;
                }
            }
        }
        return -1;
    }

    private boolean anyTwoShow(Made made, List<Integer> words, int i, int criterion) {
        for (int u : words) {
            for (int v : words) {
                if (doShow(made, u, v, i, criterion)) {
                    return true;
                }
            }
        }
        return false;
    }

    int solve(int decision, int condition, int criterion) {
        Made made = at(decision);
        look(made, condition);
        look(criterion);
        return pair(made, condition, criterion);
    }

    int suite(int decision, int criterion) {
        Made made = at(decision);
        look(criterion);
        List<Integer> suite = new ArrayList<>();
        for (int i = 0; i < made.letters.size(); i++) {
            int pair = pair(made, i, criterion);
            if (pair >= 0 && !anyTwoShow(made, suite, i, criterion)) {
                for (int word : new int[] {pair / 100, pair % 100}) {
                    if (!suite.contains(word)) {
                        suite.add(word);
                    }
                }
            }
        }
        lastSuite = suite;
        return suite.size();
    }

    int suiteAt(int i) {
        return i >= 0 && i < lastSuite.size() ? lastSuite.get(i) : -1;
    }

    int least(int decision, int criterion) {
        Made made = at(decision);
        look(criterion);
        int n = made.letters.size();
        if (n > 4) {
            return -1;
        }
        int best = made.words();
        for (int set = 0; set < 1 << made.words(); set++) {
            if (Integer.bitCount(set) < best && setShowsAll(made, set, criterion)) {
                best = Integer.bitCount(set);
            }
        }
        return best;
    }

    private boolean setShowsAll(Made made, int set, int criterion) {
        List<Integer> words = new ArrayList<>();
        for (int word = 0; word < made.words(); word++) {
            if ((set >> word & 1) == 1) {
                words.add(word);
            }
        }
        for (int i = 0; i < made.letters.size(); i++) {
            if (pair(made, i, criterion) >= 0 && !anyTwoShow(made, words, i, criterion)) {
                return false;
            }
        }
        return true;
    }

    int keep(int x, int y, int z) {
        if (recorded.size() == 12 || conditions.isEmpty()) {
            throw new IllegalStateException();
        }
        int[] vector = {x, y, z};
        for (int i = 0; i < inputs.size(); i++) {
            if (vector[i] < inputs.get(i)[0] || vector[i] > inputs.get(i)[1]) {
                throw new IllegalArgumentException();
            }
        }
        recorded.add(vector);
        return recorded.size();
    }

    int forget() {
        int had = recorded.size();
        recorded.clear();
        return had;
    }

    private boolean isCovered(Made made, int condition, int criterion) {
        List<Integer> words = new ArrayList<>();
        for (int[] vector : recorded) {
            words.add(wordOf(made, vector));
        }
        return anyTwoShow(made, words, condition, criterion);
    }

    boolean covered(int decision, int condition, int criterion) {
        Made made = at(decision);
        look(made, condition);
        look(criterion);
        return isCovered(made, condition, criterion);
    }

    int missing(int decision, int criterion) {
        Made made = at(decision);
        look(criterion);
        for (int i = 0; i < made.letters.size(); i++) {
            if (pair(made, i, criterion) >= 0 && !isCovered(made, i, criterion)) {
                return i;
            }
        }
        return -1;
    }

    int length() {
        return page.length();
    }

    char charAt(int p) {
        return p >= 0 && p < page.length() ? page.charAt(p) : ' ';
    }
}
