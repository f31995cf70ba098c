/** A refused call on one object, and a twin without it: all that both tell must be the same. */
final class Twins {
    interface Maker {
        PrivateViews make();
    }

    interface Call {
        Object on(PrivateViews x);
    }

    static final String NO_PLACE = "throws.IndexOutOfBoundsException";
    static final String NO_NUMBER = "throws.IllegalArgumentException";
    static final String CANNOT = "throws.IllegalStateException";
    static final String NO_SUCH = "throws.NoSuchElementException";
    static final String UNSUPPORTED = "throws.UnsupportedOperationException";

    private final Due due;
    private final Maker maker;

    Twins(Due due, Maker maker) {
        this.due = due;
        this.maker = maker;
    }

    /** The call answers that, and nothing changes, the tape and fault() neither. */
    void stay(String what, Object answer, Call call) {
        for (int part = 0; part < Whole.NAMES.length; part++) {
            PrivateViews x = maker.make();
            PrivateViews twin = maker.make();
            int n = part;
            due.is(what, answer, () -> call.on(x));
            due.is(what + ": fault()", twin.fault(), x::fault);
            due.is(what + ": " + Whole.NAMES[n], Whole.tell(n, twin), () -> Whole.tell(n, x));
        }
    }

    /** A call that uses the tape up is refused: fault() is as told, and nothing else changes. */
    void refuseText(String what, String thrown, int fault, String text, Call call) {
        for (int part = 0; part < Whole.NAMES.length; part++) {
            PrivateViews x = maker.make();
            PrivateViews twin = maker.make();
            twin.end(0);
            x.end(0);
            Due.feed(x, text);
            int n = part;
            String named = what + " [" + text + "]";
            due.is(named, thrown, () -> call.on(x));
            due.is(named + ": fault()", fault, x::fault);
            due.is(named + ": " + Whole.NAMES[n], Whole.tell(n, twin), () -> Whole.tell(n, x));
        }
    }

    void noPlace(String what, Call call) {
        stay(what, NO_PLACE, call);
    }

    void noNumber(String what, Call call) {
        stay(what, NO_NUMBER, call);
    }

    void cannot(String what, Call call) {
        stay(what, CANNOT, call);
    }

    void noSuch(String what, Call call) {
        stay(what, NO_SUCH, call);
    }

    void unsupported(String what, Call call) {
        stay(what, UNSUPPORTED, call);
    }

    /** A text that is wrong at that byte. */
    void wrong(String what, int fault, String text, Call call) {
        refuseText(what, NO_NUMBER, fault, text, call);
    }
}
