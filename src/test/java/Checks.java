import java.util.NoSuchElementException;

/** Counts the answers that are not as due; a test program ends with exit code 1 if there was one. */
final class Checks {
    static final Class<?> RANGE = IllegalArgumentException.class;
    static final Class<?> STATE = IllegalStateException.class;
    static final Class<?> INDEX = IndexOutOfBoundsException.class;
    static final Class<?> NONE = NoSuchElementException.class;
    static final Class<?> UNSUPPORTED = UnsupportedOperationException.class;

    private int made;
    private int wrong;

    interface Call {
        Object answer();
    }

    void due(String call, Object got, Object want) {
        made++;
        if (!got.equals(want)) {
            wrong++;
            System.out.println(call + " answered " + got + ", due is " + want);
        }
    }

    /** The very class is asked for: what the machine throws is of a class below these. */
    void thrown(String call, Class<?> want, Call run) {
        Object got;
        try {
            got = run.answer();
        } catch (RuntimeException e) {
            got = e.getClass();
        }
        due(call, got, want);
    }

    /** A call that throws must leave every answer of the desk as it was. */
    void thrownAndUnchanged(String call, Class<?> want, Entitled desk, Call run) {
        String before = describe(desk);
        thrown(call, want, run);
        due(call + ": the desk behind it", describe(desk), before);
    }

    void end() {
        System.out.println(made + " answers, " + wrong + " not as due");
        if (wrong != 0) {
            System.exit(1);
        }
    }

    static Object answerOf(Call run) {
        try {
            return run.answer();
        } catch (RuntimeException e) {
            return e.getClass().getSimpleName();
        }
    }

    static String describe(Entitled desk) {
        StringBuilder text = new StringBuilder();
        text.append(desk.installs()).append(' ').append(desk.covered()).append(' ').append(desk.spent());
        text.append(' ').append(answerOf(desk::purchase)).append(' ').append(answerOf(desk::coverage));
        for (int i = 0; i < 12; i++) {
            int install = i;
            text.append('\n').append(i).append(": ").append(desk.isThere(install));
            text.append(' ').append(answerOf(() -> desk.entitlementOf(install)));
            for (int e = 0; e < 5; e++) {
                int entitlement = e;
                text.append(' ').append(answerOf(() -> desk.why(install, entitlement)));
            }
        }
        for (int e = 0; e < 5; e++) {
            int entitlement = e;
            text.append('\n').append(e).append(": ").append(answerOf(() -> desk.units(entitlement)));
            text.append(' ').append(answerOf(() -> desk.unitsForAll(entitlement)));
            text.append(' ').append(answerOf(() -> desk.used(entitlement)));
            text.append(' ').append(answerOf(() -> desk.toBuy(entitlement)));
        }
        return text.toString();
    }
}
