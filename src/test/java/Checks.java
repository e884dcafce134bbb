/** Counts what the tests of one class ask, and ends with exit code 1 if an answer was not the due one. */
final class Checks {
    interface Call {
        long answer();
    }

    static final Class<IndexOutOfBoundsException> INDEX = IndexOutOfBoundsException.class;
    static final Class<IllegalStateException> STATE = IllegalStateException.class;
    static final Class<IllegalArgumentException> ARGUMENT = IllegalArgumentException.class;

    private final String name;
    private int made = 0;
    private int wrong = 0;

    Checks(String name) {
        this.name = name;
    }

    void due(String what, long got, long want) {
        made++;
        if (got != want) {
            tellWrong(what + " answered " + got + ", due is " + want);
        }
    }

    void due(String what, boolean got, boolean want) {
        due(what, got ? 1 : 0, want ? 1 : 0);
    }

    void due(String what, String got, String want) {
        made++;
        if (!got.equals(want)) {
            tellWrong(what + " answered " + got + ", due is " + want);
        }
    }

    /** The call has to throw just this exception, and to leave all that the object holds as it was. */
    void refused(String what, Class<? extends RuntimeException> kind, MaterialBars x, Call call) {
        String before = State.of(x);
        String got = thrownBy(call);
        due(what, got, kind.getSimpleName());
        due(what + " changes nothing", State.of(x), before);
    }

    void end() {
        System.out.println(name + ": " + made + " answers asked, " + wrong + " wrong");
        if (wrong != 0 || made == 0) {
            System.exit(1);
        }
    }

    private void tellWrong(String text) {
        wrong++;
        if (wrong <= 20) {
            System.out.println(name + ": " + text);
        }
    }

    private static String thrownBy(Call call) {
        try {
            return "nothing thrown but " + call.answer();
        } catch (RuntimeException e) {
            return e.getClass().getSimpleName();
        }
    }

    static void write(MaterialBars x, String text) {
        for (int k = 0; k < text.length(); k++) {
            x.unit(text.charAt(k));
        }
    }

    static int tell(MaterialBars x, String text) {
        write(x, text);
        return x.read();
    }

    /** An object with these methods, and with one object of these materials. */
    static MaterialBars made(String materials, String... texts) {
        MaterialBars x = new MaterialBars();
        for (String text : texts) {
            if (tell(x, text) < 0) {
                throw new IllegalArgumentException(text);
            }
        }
        x.object();
        for (int k = 0; k < materials.length(); k++) {
            x.part(0, materials.charAt(k) - '0');
        }
        return x;
    }

    /** Gives the persons 0 and 1 a right to all these methods. */
    static void allow(MaterialBars x, int methods) {
        for (int method = 0; method < methods; method++) {
            x.right(0, method, true);
            x.right(1, method, true);
        }
    }
}
