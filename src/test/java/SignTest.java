/** Promises 1 to 7: a new object, width, power, letter, list, stick, swap. */
public final class SignTest {
    private static final int NONE = Expect.NONE;

    public static void main(String[] args) {
        promise1();
        promise2();
        promise2KeepsTheRest();
        promise3();
        promise4();
        promise5();
        promise5FormsAndLengths();
        promise5LettersOfAllNumbers();
        promise6();
        promise6MovesTheBestOffset();
        promise7();
        Expect.finish();
    }

    private static void promise1() {
        Flapline sign = new Flapline();
        int[] due = {8, 10, 3, 0, 0, NONE, 0, 0, 0, 0, 0, 0, 0, 7, 0, 0, 0, NONE};
        for (int what = 0; what < due.length; what++) {
            Expect.same("1: sign " + what, due[what], sign.sign(what));
        }
        for (int height = 0; height < 5; height++) {
            Expect.same("1: row " + height, "........", sign.row(height));
        }
        for (int column = 0; column < 8; column++) {
            Expect.same("1: wear", 0, sign.column(column, 1));
            Expect.same("1: stuck", 0, sign.column(column, 2));
        }
        Expect.yes("1: sound", sign.isSound());
    }

    private static void promise2() {
        Flapline sign = new Flapline();
        sign.letter(3, 31, 31, 31);
        sign.list(1);
        sign.list(11);
        sign.show(1);
        sign.stick(7, 4, 1);
        Expect.same("2: width before", 8, sign.width(8));
        Expect.same("2: dark though as wide as before", "........", sign.row(4));
        Expect.same("2: nothing stuck", 0, sign.sign(6));
        Expect.same("2: free", NONE, sign.dot(7, 4, 2));
        Expect.same("2: flips", 0, sign.sign(7));
        Expect.same("2: flips of a dot", 0, sign.dot(0, 0, 1));
        Expect.same("2: wear", 0, sign.column(0, 1));
        Expect.same("2: shown last", NONE, sign.sign(17));
        Expect.same("2: to 4", 8, sign.width(4));
        Expect.same("2: row of 4", "....", sign.row(0));
        Expect.same("2: a line of 7 has no place", NONE, sign.ofLine(1, 2));
        Expect.same("2: a line of 3 has", 0, sign.ofLine(0, 2));
        Expect.index("2: column 4 is gone", sign, () -> sign.column(4, 0));
        Expect.argument("2: 3", sign, () -> sign.width(3));
        Expect.argument("2: 9", sign, () -> sign.width(9));
        Expect.argument("2: least", sign, () -> sign.width(Integer.MIN_VALUE));
        Expect.same("2: still 4", 4, sign.width(7));
    }

    private static void promise2KeepsTheRest() {
        Flapline sign = new Flapline();
        sign.letter(1, 31, 0, 0);
        sign.list(1);
        sign.stop(10, 0);
        sign.wheel(4);
        sign.frame(1, 0, sign.check(1, 0));
        sign.frame(1, 0, sign.check(1, 0));
        sign.frame(0, 0, 0);
        sign.power(20, 5);
        sign.width(5);
        int[] due = {5, 20, 5, 1, 1, 0, 0, 0, 1, 1, 1, 1, 0, 1, 1, 0, 4, NONE};
        for (int what = 0; what < due.length; what++) {
            Expect.same("2: sign " + what + " behind width", due[what], sign.sign(what));
        }
    }

    private static void promise3() {
        Flapline sign = new Flapline();
        Expect.same("3: at first", 10, sign.power(1, 0));
        Expect.same("3: before", 1, sign.power(40, 10));
        Expect.same("3: power", 40, sign.sign(1));
        Expect.same("3: blur", 10, sign.sign(2));
        Expect.argument("3: power 0", sign, () -> sign.power(0, 5));
        Expect.argument("3: power 41", sign, () -> sign.power(41, 5));
        Expect.argument("3: blur below 0", sign, () -> sign.power(5, -1));
        Expect.argument("3: blur 11", sign, () -> sign.power(5, 11));
    }

    private static void promise4() {
        Flapline sign = new Flapline();
        Expect.argument("4: no columns", sign, () -> sign.letter(0, 0, 0, 0));
        Expect.argument("4: 4 columns", sign, () -> sign.letter(4, 1, 1, 1));
        Expect.argument("4: first 32", sign, () -> sign.letter(1, 32, 0, 0));
        Expect.argument("4: second below 0", sign, () -> sign.letter(2, 1, -1, 0));
        Expect.argument("4: third 32", sign, () -> sign.letter(3, 1, 1, 32));
        Expect.argument("4: second not there", sign, () -> sign.letter(1, 1, 1, 0));
        Expect.argument("4: third not there", sign, () -> sign.letter(2, 1, 1, 1));
        Expect.argument("4: third not there, of 1", sign, () -> sign.letter(1, 1, 0, 1));
        Expect.argument("4: all 0", sign, () -> sign.letter(3, 0, 0, 0));
        Expect.same("4: only the third bright", 1, sign.letter(3, 0, 0, 31));
        Expect.same("4: only the second bright", 2, sign.letter(2, 0, 16, 0));
        Expect.same("4: the same again", 3, sign.letter(2, 0, 16, 0));
        Expect.same("4: narrow", 4, sign.letter(1, 1, 0, 0));
        Expect.same("4: wide", 5, sign.letter(3, 31, 31, 31));
        Expect.same("4: the sixth", 6, sign.letter(3, 1, 0, 1));
        Expect.state("4: a seventh", sign, () -> sign.letter(1, 1, 0, 0));
        Expect.argument("4: a wrong seventh", sign, () -> sign.letter(1, 0, 0, 0));
        Expect.same("4: count", 6, sign.sign(3));
    }

    private static void promise5() {
        Flapline sign = new Flapline();
        Expect.argument("5: no letter yet", sign, () -> sign.list(1));
        sign.letter(1, 31, 0, 0);
        sign.letter(1, 1, 0, 0);
        Expect.argument("5: 0", sign, () -> sign.list(0));
        Expect.argument("5: below 0", sign, () -> sign.list(-12));
        Expect.argument("5: least", sign, () -> sign.list(Integer.MIN_VALUE));
        Expect.argument("5: 5 digits", sign, () -> sign.list(11111));
        Expect.argument("5: no letter 3", sign, () -> sign.list(3));
        Expect.argument("5: a 3 ahead", sign, () -> sign.list(3111));
        Expect.argument("5: a 0 inside", sign, () -> sign.list(101));
        Expect.argument("5: a 0 at the end", sign, () -> sign.list(10));
        Expect.same("5: first", 0, sign.list(1212));
        Expect.state("5: the same row", sign, () -> sign.list(1212));
        int[] rows = {1, 2, 11, 12, 21, 22, 111};
        for (int line = 0; line < rows.length; line++) {
            Expect.same("5: row " + rows[line], line + 1, sign.list(rows[line]));
            Expect.same("5: its row", rows[line], sign.ofLine(line + 1, 0));
        }
        Expect.state("5: a ninth", sign, () -> sign.list(222));
        Expect.argument("5: a wrong ninth", sign, () -> sign.list(333));
        Expect.same("5: count", 8, sign.sign(4));
    }

    private static void promise5FormsAndLengths() {
        Flapline sign = new Flapline();
        sign.letter(3, 1, 2, 4);
        sign.letter(1, 8, 0, 0);
        sign.letter(2, 16, 31, 0);
        sign.list(1);
        sign.list(123);
        sign.list(1111);
        sign.list(2222);
        Expect.same("5: one letter", 3, sign.ofLine(0, 1));
        Expect.same("5: three letters", 8, sign.ofLine(1, 1));
        Expect.same("5: four wide ones", 15, sign.ofLine(2, 1));
        Expect.same("5: four narrow ones", 7, sign.ofLine(3, 1));
        sign.show(1);
        int[] due = {1, 2, 4, 0, 8, 0, 16, 31};
        for (int column = 0; column < due.length; column++) {
            Expect.same("5: column " + column, due[column], sign.column(column, 0));
        }
    }

    private static void promise5LettersOfAllNumbers() {
        Flapline sign = new Flapline();
        for (int letter = 1; letter <= 6; letter++) {
            sign.letter(letter == 6 ? 2 : 1, letter, letter == 6 ? 7 : 0, 0);
        }
        sign.list(61);
        sign.list(2345);
        Expect.same("5: the sixth is two wide", 4, sign.ofLine(0, 1));
        sign.power(40, 3);
        sign.show(0);
        Expect.same("5: the sixth", 6, sign.column(0, 0));
        Expect.same("5: its second", 7, sign.column(1, 0));
        Expect.same("5: the first", 1, sign.column(3, 0));
        sign.show(1);
        for (int place = 0; place < 4; place++) {
            Expect.same("5: letter by letter", place + 2, sign.column(2 * place, 0));
        }
    }

    private static void promise6() {
        Flapline sign = new Flapline();
        Expect.same("6: dark ahead", 0, sign.stick(2, 3, 1));
        Expect.same("6: shows it", 1, sign.dot(2, 3, 0));
        Expect.same("6: as set", 8, sign.column(2, 0));
        Expect.same("6: not a flip", 0, sign.dot(2, 3, 1));
        Expect.same("6: not wear", 0, sign.column(2, 1));
        Expect.same("6: bright ahead", 1, sign.stick(2, 3, NONE));
        Expect.same("6: free, shows what it showed", 1, sign.dot(2, 3, 0));
        Expect.same("6: free", NONE, sign.dot(2, 3, 2));
        Expect.same("6: at 0", 1, sign.stick(2, 3, 0));
        Expect.same("6: dark", 0, sign.dot(2, 3, 0));
        Expect.same("6: stuck at 0", 0, sign.dot(2, 3, 2));
        Expect.same("6: at the other face", 0, sign.stick(2, 3, 1));
        Expect.same("6: one is stuck", 1, sign.sign(6));
        Expect.same("6: a free one freed", 0, sign.stick(7, 4, NONE));
        Expect.index("6: column below 0", sign, () -> sign.stick(-1, 0, 0));
        Expect.index("6: column 8", sign, () -> sign.stick(8, 0, 0));
        Expect.index("6: height below 0", sign, () -> sign.stick(0, -1, 0));
        Expect.index("6: height 5", sign, () -> sign.stick(0, 5, 0));
        Expect.argument("6: face 2", sign, () -> sign.stick(0, 0, 2));
        Expect.argument("6: face -2", sign, () -> sign.stick(0, 0, -2));
        Expect.index("6: both wrong", sign, () -> sign.stick(0, 5, 2));
        Expect.yes("6: sound", sign.isSound());
    }

    private static void promise6MovesTheBestOffset() {
        Flapline sign = new Flapline();
        sign.letter(1, 31, 0, 0);
        sign.list(1);
        sign.stick(0, 0, 0);
        Expect.same("6: beside the stuck dot", 1, sign.ofLine(0, 2));
        Expect.same("6: no harm", 0, sign.ofLine(0, 3));
        sign.stick(4, 0, 1);
        Expect.same("6: on the bright one", 4, sign.ofLine(0, 2));
        sign.stick(6, 0, 1);
        Expect.same("6: the one or the other", 4, sign.ofLine(0, 2));
        Expect.same("6: harm beside the form", 1, sign.ofLine(0, 3));
    }

    private static void promise7() {
        Flapline sign = new Flapline();
        sign.letter(1, 31, 0, 0);
        sign.list(1);
        sign.show(0);
        sign.stick(0, 2, 0);
        sign.stick(0, 3, 1);
        sign.stick(1, 0, 1);
        Expect.same("7: wear ahead", 5, sign.swap(0));
        Expect.same("7: dark", 0, sign.column(0, 0));
        Expect.same("7: wear", 0, sign.column(0, 1));
        Expect.same("7: free", 0, sign.column(0, 2));
        Expect.same("7: flips stay", 1, sign.dot(0, 3, 1));
        Expect.same("7: the column beside it", 1, sign.column(1, 0));
        Expect.same("7: its stuck dot", 1, sign.column(1, 2));
        sign.stick(1, 0, 0);
        sign.show(0);
        Expect.same("7: wear begins anew", 5, sign.column(0, 1));
        Expect.same("7: flips go on", 2, sign.dot(0, 3, 1));
        Expect.same("7: new", 5, sign.swap(0));
        Expect.same("7: at once again", 0, sign.swap(0));
        Expect.index("7: below 0", sign, () -> sign.swap(-1));
        Expect.index("7: 8", sign, () -> sign.swap(8));
        sign.width(5);
        Expect.index("7: 5 of 5", sign, () -> sign.swap(5));
        Expect.yes("7: sound", sign.isSound());
    }
}
