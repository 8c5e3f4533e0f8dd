/**
 * All that an object tells of itself, as one text, so that two objects can be compared. It uses the
 * object up, and is meant for objects with small decisions: they stay within their 512 calls.
 */
final class Trace {
    private final MaskedCauses m;
    private final StringBuilder out = new StringBuilder();

    private Trace(MaskedCauses m) {
        this.m = m;
    }

    static String of(MaskedCauses m) {
        Trace trace = new Trace(m);
        trace.page();
        trace.suite();
        for (int d = 0; d < 4; d++) {
            trace.decision(d);
        }
        trace.text();
        trace.tell("forget", m::forget);
        trace.inputsAndConditions();
        return trace.out.toString();
    }

    private Object tell(String what, Checks.Call call) {
        Object answer = Checks.answer(call);
        out.append(' ').append(what).append('=').append(answer);
        return answer;
    }

    private void page() {
        tell("page", () -> Checks.page(m));
        tell("behind the page", () -> m.charAt(m.length()));
    }

    private void suite() {
        Object last = 0;
        for (int i = 0; i <= 12 && !last.equals(MaskedCauses.NONE); i++) {
            int place = i;
            last = tell("suiteAt", () -> m.suiteAt(place));
        }
    }

    private void decision(int d) {
        if (!(tell("conditions", () -> m.conditions(d)) instanceof Integer count)) {
            return;
        }
        tell("feasible", () -> m.feasible(d));
        for (int word = 0; word < 1 << count; word++) {
            word(d, word, count);
        }
        for (int criterion = 0; criterion < 3; criterion++) {
            criterion(d, criterion, count);
        }
        tell("shown", () -> Checks.shown(m, d));
    }

    private void word(int d, int word, int count) {
        tell("outcome", () -> m.outcome(d, word));
        for (int i = 0; i < count; i++) {
            int condition = i;
            tell("evaluated", () -> m.evaluated(d, word, condition));
        }
        for (int x = 0; x < 3; x++) {
            int input = x;
            tell("vector", () -> m.vector(d, word, input));
        }
    }

    private void criterion(int d, int criterion, int count) {
        for (int i = 0; i < count; i++) {
            int condition = i;
            tell("solve", () -> m.solve(d, condition, criterion));
            tell("covered", () -> m.covered(d, condition, criterion));
        }
        tell("missing", () -> m.missing(d, criterion));
    }

    /** What the text is can be told by reading it alone. */
    private void text() {
        if (tell("decision", () -> m.decision(true)) instanceof Integer d && d >= 0) {
            decision(d);
        }
        tell("wipe", m::wipe);
    }

    private void inputsAndConditions() {
        for (int i = 0; i < 4; i++) {
            tell("input", () -> m.input(0, 0));
        }
        for (int i = 0; i < 9; i++) {
            tell("condition", () -> m.condition(0, 0, -1, 0));
        }
    }
}
