/** Counts the answers that are not as due; a test's main ends with finish(). */
final class Expect {
    static final int NONE = -1;
    static final Class<?> ARGUMENT = IllegalArgumentException.class;
    static final Class<?> STATE = IllegalStateException.class;
    static final Class<?> INDEX = IndexOutOfBoundsException.class;
    private static int checked;
    private static int wrong;

    interface Call {
        void run();
    }

    interface Make {
        Flapline sign();
    }

    interface Use {
        void on(Flapline sign);
    }

    static void same(String what, long due, long got) {
        checked++;
        if (due != got) {
            tell(what + ": due " + due + ", got " + got);
        }
    }

    static void same(String what, String due, String got) {
        checked++;
        if (!due.equals(got)) {
            tell(what + ": due " + due + ", got " + got);
        }
    }

    static void yes(String what, boolean got) {
        same(what, 1, got ? 1 : 0);
    }

    static void argument(String what, Flapline sign, Call call) {
        refused(what, ARGUMENT, sign, call);
    }

    static void state(String what, Flapline sign, Call call) {
        refused(what, STATE, sign, call);
    }

    static void index(String what, Flapline sign, Call call) {
        refused(what, INDEX, sign, call);
    }

    /** The call throws exactly that, and the digest and the rows are the same then. */
    private static void refused(String what, Class<?> due, Flapline sign, Call call) {
        String before = allOf(sign);
        thrown(what, due, call);
        same(what + " changes nothing", before, allOf(sign));
    }

    /**
     * The call throws exactly that, and changes nothing: a sign that was never asked so, made in the same way,
     * answers the same to all that can be asked, and goes on in the same way.
     */
    static void refused(String what, Class<?> due, Make make, Use call) {
        Flapline sign = make.sign();
        thrown(what, due, () -> call.on(sign));
        same(what + " changes nothing", Whole.of(make.sign()), Whole.of(sign));
    }

    static void thrown(String what, Class<?> due, Call call) {
        Class<?> got = null;
        try {
            call.run();
        } catch (RuntimeException thrown) {
            got = thrown.getClass();
        }
        checked++;
        if (got != due) {
            tell(what + ": due " + due.getSimpleName() + ", got " + (got == null ? "no exception" : got.getName()));
        }
    }

    private static String allOf(Flapline sign) {
        StringBuilder all = new StringBuilder();
        all.append(sign.digest());
        for (int height = 0; height < 5; height++) {
            all.append(' ').append(sign.row(height));
        }
        return all.toString();
    }

    private static void tell(String text) {
        wrong++;
        System.out.println(text);
    }

    static void finish() {
        System.out.println((checked - wrong) + " passed, " + wrong + " failed");
        if (wrong > 0 || checked == 0) {
            System.exit(1);
        }
    }
}
