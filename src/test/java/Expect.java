/** Counts the answers that are not as due; a test's main ends with finish(). */
final class Expect {
    static final int NONE = -1;
    private static int checked;
    private static int wrong;

    interface Call {
        void run();
    }

    static void same(String what, long due, long got) {
        checked++;
        if (due != got) {
            tell(what + ": due " + due + ", got " + got);
        }
    }

    static void same(String what, String due, String got) {
        checked++;
        if (!due.equals(got)) {
            tell(what + ": due " + due + ", got " + got);
        }
    }

    static void yes(String what, boolean got) {
        same(what, 1, got ? 1 : 0);
    }

    static void argument(String what, Flapline sign, Call call) {
        refused(what, IllegalArgumentException.class, sign, call);
    }

    static void state(String what, Flapline sign, Call call) {
        refused(what, IllegalStateException.class, sign, call);
    }

    static void index(String what, Flapline sign, Call call) {
        refused(what, IndexOutOfBoundsException.class, sign, call);
    }

    /** The call throws exactly that, and nothing that can be asked is another then. */
    private static void refused(String what, Class<?> due, Flapline sign, Call call) {
        String before = allOf(sign);
        Class<?> got = null;
        try {
            call.run();
        } catch (RuntimeException thrown) {
            got = thrown.getClass();
        }
        checked++;
        if (got != due) {
            tell(what + ": due " + due.getSimpleName() + ", got " + (got == null ? "no exception" : got.getName()));
        }
        same(what + " changes nothing", before, allOf(sign));
    }

    static String allOf(Flapline sign) {
        StringBuilder all = new StringBuilder();
        all.append(sign.digest());
        for (int height = 0; height < 5; height++) {
            all.append(' ').append(sign.row(height));
        }
        return all.toString();
    }

    private static void tell(String text) {
        wrong++;
        System.out.println(text);
    }

    static void finish() {
        System.out.println((checked - wrong) + " passed, " + wrong + " failed");
        if (wrong > 0 || checked == 0) {
            System.exit(1);
        }
    }
}
