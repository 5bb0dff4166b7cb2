import java.util.NoSuchElementException;

/** Counts the answers that are not as due; a test program ends with exit code 1 if there was one. */
final class Checks {
    static final Class<?> RANGE = IllegalArgumentException.class;
    static final Class<?> STATE = IllegalStateException.class;
    static final Class<?> INDEX = IndexOutOfBoundsException.class;
    static final Class<?> NONE = NoSuchElementException.class;
    static final Class<?> UNSUPPORTED = UnsupportedOperationException.class;

    // What a wrong bound, a wrong sign or a wrap-around would let through.
    private static final int[] NO_INSTALLS = {-1, 12, 13, 16, -12, 256, 65536, Integer.MIN_VALUE, Integer.MAX_VALUE};
    private static final int[] NO_ENTITLEMENTS = {-1, 5, 6, 8, -5, 256, 65536, Integer.MIN_VALUE, Integer.MAX_VALUE};

    private String about = "";
    private int made;
    private int wrong;

    interface Call {
        Object answer();
    }

    interface DeskCall {
        Object on(Entitled desk);
    }

    interface NumberCall {
        Object on(Entitled desk, int number);
    }

    void about(String sentence) {
        about = sentence;
    }

    void due(String call, Object got, Object want) {
        made++;
        if (!got.equals(want)) {
            wrong++;
            System.out.println((about.isEmpty() ? "" : "[" + about + "] ") + call + " answered " + got
                    + ", due is " + want);
        }
    }

    /** The very class is asked for: what the machine throws is of a class below these. */
    void thrown(String call, Class<?> want, Call run) {
        due(call, answerOrClass(run), want);
    }

    /**
     * A refused call must leave the desk as it was. A second desk made in the same way tells how that is: reading a
     * desk out changes it, and takes some 200 of the 512 calls for which the document speaks.
     */
    void refused(String call, Class<?> want, Desks.Maker desks, DeskCall run) {
        Entitled desk = desks.make();
        thrown(call, want, () -> run.on(desk));
        String got = Readout.of(desk);
        String untouched = Readout.of(desks.make());
        due(call + ": the desk behind it", firstOther(got, untouched), firstOther(untouched, got));
    }

    void refusedOfNoInstall(String call, NumberCall run) {
        for (int number : NO_INSTALLS) {
            refused(call + " of " + number, INDEX, Desks::some, desk -> run.on(desk, number));
        }
        refused(call + " of 0 on a new desk", INDEX, Entitled::new, desk -> run.on(desk, 0));
        refused(call + " of the next number", INDEX, Desks::some, desk -> run.on(desk, 4));
        refused(call + " of the last number, not made", INDEX, Desks::some, desk -> run.on(desk, 11));
        refused(call + " of 12 with all made", INDEX, Desks::full, desk -> run.on(desk, 12));
    }

    void refusedOfRetired(String call, NumberCall run) {
        refused(call + " of a retired one", INDEX, Desks::some, desk -> run.on(desk, 1));
        refused(call + " of the first, retired", INDEX, Desks::full, desk -> run.on(desk, 0));
        refused(call + " of the last, retired", INDEX, Desks::allRetired, desk -> run.on(desk, 11));
    }

    void refusedOfNoEntitlement(String call, NumberCall run) {
        for (int number : NO_ENTITLEMENTS) {
            refused(call + " of " + number, INDEX, Desks::some, desk -> run.on(desk, number));
        }
        refused(call + " of 0 on a new desk", INDEX, Entitled::new, desk -> run.on(desk, 0));
        refused(call + " of the next number", INDEX, Desks::some, desk -> run.on(desk, 3));
        refused(call + " of the last number, not added", INDEX, Desks::some, desk -> run.on(desk, 4));
        refused(call + " of 5 with all added", INDEX, Desks::full, desk -> run.on(desk, 5));
    }

    void end() {
        System.out.println(made + " answers, " + wrong + " not as due");
        if (wrong != 0) {
            System.exit(1);
        }
    }

    static Object answerOrClass(Call run) {
        try {
            return run.answer();
        } catch (RuntimeException e) {
            return e.getClass();
        }
    }

    private static String firstOther(String text, String other) {
        String[] lines = text.split("\n");
        String[] others = other.split("\n");
        for (int i = 0; i < lines.length; i++) {
            if (i >= others.length || !lines[i].equals(others[i])) {
                return lines[i];
            }
        }
        return "the same";
    }
}
