/** Looks at refused calls: what they answer, and that nothing has changed behind them. */
final class Refusals {
    interface Maker {
        MaskedCauses make();
    }

    interface Refused {
        Object on(MaskedCauses m);
    }

    private final Checks checks;

    Refusals(Checks checks) {
        this.checks = checks;
    }

    void state(String what, Maker maker, Refused call) {
        due(what, "throws.IllegalStateException", maker, call);
    }

    void index(String what, Maker maker, Refused call) {
        due(what, "throws.IndexOutOfBoundsException", maker, call);
    }

    void argument(String what, Maker maker, Refused call) {
        due(what, "throws.IllegalArgumentException", maker, call);
    }

    /** Two objects are made alike, only one gets the call, and both must tell the same then. */
    void due(String what, Object want, Maker maker, Refused call) {
        MaskedCauses m = maker.make();
        checks.due(what, want, () -> call.on(m));
        checks.due("what is told behind " + what, Trace.of(maker.make()), () -> Trace.of(m));
    }
}
