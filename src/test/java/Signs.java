/** Signs to be tested, and what many tests do with them. */
final class Signs {
    private static final int NONE = Expect.NONE;

    private Signs() {
    }

    /** A sign with letters of one column each, and the lines of these rows. */
    static Flapline with(int[] letters, int... rows) {
        Flapline sign = new Flapline();
        for (int set : letters) {
            sign.letter(1, set, 0, 0);
        }
        list(sign, rows);
        return sign;
    }

    static void list(Flapline sign, int... rows) {
        for (int row : rows) {
            sign.list(row);
        }
    }

    static int[] letters(int... sets) {
        return sets;
    }

    /** Makes a free column show that, without a flip: each dot is stuck there, and freed. */
    static void paint(Flapline sign, int column, int set) {
        for (int height = 0; height < 5; height++) {
            sign.stick(column, height, set >> height & 1);
            sign.stick(column, height, NONE);
        }
    }

    static void stickColumn(Flapline sign, int column, int face) {
        for (int height = 0; height < 5; height++) {
            sign.stick(column, height, face);
        }
    }

    /** The columns from 0 on show that, and those behind are dark. */
    static void shows(String what, Flapline sign, int... sets) {
        for (int column = 0; column < sign.sign(0); column++) {
            int due = column < sets.length ? sets[column] : 0;
            Expect.same(what + ": column " + column, due, sign.column(column, 0));
        }
    }

    static void plan(String what, Flapline sign, int line, int... sets) {
        Expect.same(what + ": steps", sets.length, sign.ofLine(line, 6));
        for (int nth = 0; nth < sets.length; nth++) {
            Expect.same(what + ": step " + nth, sets[nth], sign.step(line, nth));
        }
        Expect.same(what + ": no more", NONE, sign.step(line, sets.length));
    }

    static void noPlan(String what, Flapline sign, int line) {
        Expect.same(what + ": no steps", NONE, sign.ofLine(line, 6));
        Expect.same(what + ": no flips", NONE, sign.ofLine(line, 7));
        Expect.same(what + ": no first step", NONE, sign.step(line, 0));
        String before = rows(sign) + sign.sign(8) + " " + sign.sign(7) + " " + sign.sign(17);
        Expect.same(what + ": cannot be shown", NONE, sign.show(line));
        String behind = rows(sign) + sign.sign(8) + " " + sign.sign(7) + " " + sign.sign(17);
        Expect.same(what + ": nothing happens", before, behind);
    }

    private static String rows(Flapline sign) {
        StringBuilder rows = new StringBuilder();
        for (int height = 0; height < 5; height++) {
            rows.append(sign.row(height)).append(' ');
        }
        return rows.toString();
    }

    static int send(Flapline sign, int number, int line) {
        return sign.frame(number, line, sign.check(number, line));
    }

    /** What the sign counted of its frames, and the last number that was taken. */
    static void counts(String what, Flapline sign, int broken, int old, int taken, int unshown, int last) {
        Expect.same(what + ": broken", broken, sign.sign(9));
        Expect.same(what + ": old", old, sign.sign(10));
        Expect.same(what + ": taken", taken, sign.sign(11));
        Expect.same(what + ": unshown", unshown, sign.sign(12));
        Expect.same(what + ": last", last, sign.sign(13));
    }
}
