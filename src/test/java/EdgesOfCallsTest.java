/** "An object is used for at most 512 calls after it has been made": all of them are answered. */
public final class EdgesOfCallsTest {
    private static final Checks CHECKS = new Checks();
    private static final int MOST_CALLS = 512;

    private final MaskedCauses m = new MaskedCauses();
    private int calls = 0;

    public static void main(String[] args) {
        CHECKS.sentence("at most 512 calls: the dearest ones", () -> new EdgesOfCallsTest().dearest());
        CHECKS.sentence("at most 512 calls: of the text", () -> new EdgesOfCallsTest().texts());
        CHECKS.sentence("at most 512 calls: of recorded vectors", () -> new EdgesOfCallsTest().records());
        CHECKS.sentence("at most 512 calls: refused ones", () -> new EdgesOfCallsTest().refused());
        CHECKS.end();
    }

    private void due(Object want, Checks.Call call) {
        calls++;
        if (calls <= MOST_CALLS) {
            CHECKS.due("call " + calls, want, call);
        }
    }

    private void read(int want, String text, boolean isShort) {
        for (char c : text.toCharArray()) {
            due(true, () -> m.type(c));
        }
        due(want, () -> m.decision(isShort));
    }

    /** Three inputs as wide as can be, and six conditions that are free of one another by twos. */
    private void prepare() {
        for (int i = 0; i < 3; i++) {
            int number = i;
            due(number, () -> m.input(-20, 20));
        }
        for (int i = 0; i < 6; i++) {
            int number = i;
            due(number, () -> m.condition(2, number % 3, -1, number < 3 ? 20 : -20));
        }
    }

    private void dearest() {
        prepare();
        read(0, "A|B|C|D|E|F", false);
        read(1, "A&B&C", false);
        read(2, "A|B|C|D", true);
        read(3, "!(A&B)", true);
        while (calls < MOST_CALLS) {
            due(27, () -> m.feasible(0));
            due(7, () -> m.suite(0, 1));
            due(4, () -> m.least(1, 0));
            due(5, () -> m.least(2, 0));
            due(20, () -> m.vector(1, 7, 2));
            due(1, () -> m.solve(0, 0, 0));
            due(32, () -> m.solve(0, 5, 2));
            due(0, () -> m.missing(0, 2));
            due(false, () -> m.covered(0, 5, 1));
            due(11, () -> m.show(0));
            due('|', () -> m.charAt(9));
        }
    }

    private void texts() {
        prepare();
        while (calls < MOST_CALLS) {
            read(-6, "A&(B)?", true);
            read(-41, "!".repeat(40), false);
            due(false, () -> m.type('\u007f'));
            due(true, () -> m.type('A'));
            due(1, m::wipe);
        }
    }

    private void records() {
        prepare();
        read(0, "A", false);
        while (calls < MOST_CALLS) {
            for (int i = 1; i <= 12; i++) {
                int number = i;
                due(number, () -> m.keep(number == 12 ? 20 : 0, 0, 0));
            }
            due(true, () -> m.covered(0, 0, 0));
            due(12, m::forget);
            due(false, () -> m.covered(0, 0, 0));
        }
    }

    private void refused() {
        prepare();
        read(0, "A|B", false);
        while (calls < MOST_CALLS) {
            due("throws.IllegalStateException", () -> m.input(0, 1));
            due("throws.IndexOutOfBoundsException", () -> m.condition(0, 3, -1, 0));
            due("throws.IllegalArgumentException", () -> m.condition(0, 0, 0, 0));
            due(-1, () -> m.decision(true));
            due("throws.IndexOutOfBoundsException", () -> m.show(1));
            due("throws.IllegalArgumentException", () -> m.suite(0, 3));
            due("throws.IllegalArgumentException", () -> m.keep(21, 0, 0));
            due(3, () -> m.suite(0, 0));
            due(2, () -> m.suiteAt(2));
            due(0, m::forget);
            due(0, m::wipe);
        }
    }
}
