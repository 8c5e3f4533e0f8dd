import java.util.Random;

/** Many runs of calls, right ones and wrong ones, on the program and on the model: promises 1 to 22. */
public final class ModelTest {
    private static final int RUNS = 3000;
    private static final int MOST_CALLS = 512;

    private final Random random;
    private final MaskedCauses real = new MaskedCauses();
    private final Model model = new Model();
    private final StringBuilder told = new StringBuilder();
    /** The greatest letter of most texts: many letters make many words, few make short texts rich. */
    private final int lastLetter;
    private int wrong = 0;
    private int calls = 0;

    private ModelTest(int seed) {
        random = new Random(seed);
        lastLetter = seed % 3 == 0 ? pick(4, 7) : 3;
    }

    public static void main(String[] args) {
        int wrong = 0;
        for (int seed = 0; seed < RUNS && wrong < 5; seed++) {
            ModelTest test = new ModelTest(seed);
            test.run();
            if (test.wrong > 0) {
                wrong++;
                System.out.println("seed " + seed + ":" + test.told);
            }
        }
        System.out.println(RUNS + " runs against the model, " + wrong + " wrong");
        if (wrong > 0) {
            System.exit(1);
        }
    }

    private void same(String what, Checks.Call onReal, Checks.Call onModel) {
        calls++;
        if (wrong > 0 || calls > MOST_CALLS) {
            return;
        }
        Object want = Checks.answer(onModel);
        Object got = Checks.answer(onReal);
        told.append(' ').append(what).append('=').append(want);
        if (!want.equals(got)) {
            wrong++;
            told.append(" but answered ").append(got);
        }
    }

    private int pick(int low, int high) {
        return low + random.nextInt(high - low + 1);
    }

    private void run() {
        if (random.nextInt(8) == 0) {
            text();
            decide();
            keep();
        }
        int inputs = pick(1, 4);
        boolean isWide = random.nextInt(40) == 0;
        for (int i = 0; i < inputs; i++) {
            input(isWide);
        }
        int conditions = pick(1, 11);
        for (int i = 0; i < conditions; i++) {
            condition();
        }
        int turns = pick(1, 5);
        for (int i = 0; i < turns; i++) {
            text();
            decide();
            for (int call = pick(1, 60); call > 0; call--) {
                ask();
            }
        }
    }

    private void input(boolean isWide) {
        int low = isWide ? -20 : pick(-21, 20);
        int high = isWide ? pick(19, 20) : Math.min(low + pick(-1, 6), pick(19, 21));
        same("input(" + low + "," + high + ")", () -> real.input(low, high),
                () -> model.input(low, high));
    }

    private void condition() {
        int kind = random.nextInt(20) == 0 ? pick(-1, 4) : pick(0, 3);
        int a = random.nextInt(10) == 0 ? pick(-1, 3) : pick(0, 2);
        int b = random.nextInt(10) == 0 ? pick(-2, 3) : random.nextInt(3) > 0 ? -1 : pick(0, 2);
        int k = random.nextInt(20) == 0 ? pick(-52, 52) : pick(-12, 12);
        same("condition(" + kind + "," + a + "," + b + "," + k + ")",
                () -> real.condition(kind, a, b, k), () -> model.condition(kind, a, b, k));
    }

    private void text() {
        String text = decisionText(pick(0, 3), new StringBuilder()).toString();
        if (random.nextInt(4) == 0) {
            int p = random.nextInt(text.length() + 1);
            String put = random.nextInt(3) == 0 ? "" : "" + "(()!&^|AHIa \u007f\u001f~".charAt(pick(0, 14));
            text = text.substring(0, p) + put + text.substring(Math.min(text.length(), p + pick(0, 1)));
        }
        for (char c : text.toCharArray()) {
            same("type(" + c + ")", () -> real.type(c), () -> model.type(c));
        }
        if (random.nextInt(20) == 0) {
            same("wipe()", real::wipe, model::wipe);
        }
    }

    private StringBuilder decisionText(int levels, StringBuilder out) {
        int parts = pick(1, 4);
        for (int i = 0; i < parts; i++) {
            if (i > 0) {
                out.append("|^&".charAt(pick(0, 2)));
            }
            out.append("!".repeat(Math.max(0, pick(-3, 2))));
            if (levels > 0 && random.nextInt(3) == 0) {
                int brackets = Math.max(1, pick(-2, 2));
                out.append("(".repeat(brackets));
                decisionText(levels - 1, out).append(")".repeat(brackets));
            } else {
                out.append((char) ('A' + (random.nextInt(30) == 0 ? pick(0, 8) : pick(0, lastLetter))));
            }
        }
        return out;
    }

    private void decide() {
        boolean isShort = random.nextBoolean();
        same("decision(" + isShort + ")", () -> real.decision(isShort), () -> model.decision(isShort));
    }

    private void keep() {
        int x = pick(-21, 21);
        int y = pick(-21, 21);
        int z = pick(-21, 21);
        same("keep(" + x + "," + y + "," + z + ")", () -> real.keep(x, y, z), () -> model.keep(x, y, z));
    }

    /** Records the vector of a word, which is always in range. */
    private void keepOf(int d, int word) {
        try {
            int x = model.vector(d, word, 0);
            int y = model.vector(d, word, random.nextBoolean() ? 1 : 0);
            int z = model.vector(d, word, random.nextBoolean() ? 2 : 0);
            same("keep(" + x + "," + y + "," + z + ")", () -> real.keep(x, y, z),
                    () -> model.keep(x, y, z));
        } catch (RuntimeException e) {
            keep();
        }
    }

    private void ask() {
        int d = random.nextInt(15) == 0 ? pick(-1, 4) : pick(0, 1);
        int c = random.nextInt(15) == 0 ? pick(-1, 6) : pick(0, Math.min(lastLetter, 5));
        int r = random.nextInt(15) == 0 ? pick(-1, 3) : pick(0, 2);
        int w = random.nextInt(15) == 0 ? pick(-1, 64) : pick(0, lastLetter == 3 ? 7 : 63);
        int i = pick(-1, 12);
        String dr = "(" + d + "," + r + ")";
        String dcr = "(" + d + "," + c + "," + r + ")";
        String dw = "(" + d + "," + w;
        switch (random.nextInt(22)) {
            case 0 -> same("conditions(" + d + ")", () -> real.conditions(d), () -> model.conditions(d));
            case 1 -> same("feasible(" + d + ")", () -> real.feasible(d), () -> model.feasible(d));
            case 2, 3 -> {
                same("show(" + d + ")", () -> real.show(d), () -> model.show(d));
                for (int p = -1; p < 41; p++) {
                    int place = p;
                    same("charAt(" + p + ")", () -> real.charAt(place), () -> model.charAt(place));
                }
                same("length()", real::length, model::length);
            }
            case 4, 5 -> same("vector" + dw + "," + (i / 4) + ")", () -> real.vector(d, w, i / 4),
                    () -> model.vector(d, w, i / 4));
            case 6 -> same("outcome" + dw + ")", () -> real.outcome(d, w), () -> model.outcome(d, w));
            case 7 -> same("evaluated" + dw + "," + c + ")", () -> real.evaluated(d, w, c),
                    () -> model.evaluated(d, w, c));
            case 8, 9 -> same("solve" + dcr, () -> real.solve(d, c, r), () -> model.solve(d, c, r));
            case 10 -> same("suite" + dr, () -> real.suite(d, r), () -> model.suite(d, r));
            case 11, 12 -> same("suiteAt(" + i + ")", () -> real.suiteAt(i), () -> model.suiteAt(i));
            case 13 -> least(d, r);
            case 14, 15, 16 -> keepOf(d, w);
            case 17 -> {
                if (random.nextInt(3) == 0) {
                    same("forget()", real::forget, model::forget);
                }
            }
            case 18, 19 -> same("covered" + dcr, () -> real.covered(d, c, r), () -> model.covered(d, c, r));
            case 20 -> same("missing" + dr, () -> real.missing(d, r), () -> model.missing(d, r));
            default -> {
                if (random.nextInt(4) == 0) {
                    condition();
                    input(false);
                }
            }
        }
    }

    /** The model tries all sets of words, which is slow where there are four conditions. */
    private void least(int d, int r) {
        boolean isDear = d >= 0 && "4".equals("" + Checks.answer(() -> model.conditions(d)));
        if (!isDear || random.nextInt(4) == 0) {
            same("least(" + d + "," + r + ")", () -> real.least(d, r), () -> model.least(d, r));
        }
    }
}
