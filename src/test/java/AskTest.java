import java.util.Arrays;

/** Promises 13 to 15, 17, 18 and 20 to 23: what is asked, and what would be. */
public final class AskTest {
    private static final int NONE = Expect.NONE;

    public static void main(String[] args) {
        promise13();
        promise14();
        promise15();
        promise17();
        promise18();
        reading();
        readingTwoAlike();
        promise20();
        promise21();
        promise22();
        promise23();
        promise23ByLinesAndWidths();
        Expect.finish();
    }

    private static void promise13() {
        Flapline sign = new Flapline();
        sign.letter(1, 19, 0, 0);
        sign.list(1);
        sign.show(0);
        sign.stick(1, 4, 1);
        int[] due = {1, 1, 0, 0, 1};
        for (int height = 0; height < 5; height++) {
            Expect.same("13: shows", due[height], sign.dot(0, height, 0));
            Expect.same("13: flips", due[height], sign.dot(0, height, 1));
            Expect.same("13: free", NONE, sign.dot(0, height, 2));
        }
        Expect.same("13: stuck", 1, sign.dot(1, 4, 2));
        Expect.same("13: stuck shows", 1, sign.dot(1, 4, 0));
        Expect.index("13: column below 0", sign, () -> sign.dot(-1, 0, 0));
        Expect.index("13: column 8", sign, () -> sign.dot(8, 0, 0));
        Expect.index("13: height below 0", sign, () -> sign.dot(1, -1, 0));
        Expect.index("13: height 5", sign, () -> sign.dot(0, 5, 0));
        Expect.argument("13: what below 0", sign, () -> sign.dot(0, 0, -1));
        Expect.argument("13: what 3", sign, () -> sign.dot(0, 0, 3));
        Expect.index("13: both", sign, () -> sign.dot(0, 5, 3));
        sign.width(4);
        Expect.index("13: column 4 of 4", sign, () -> sign.dot(4, 0, 0));
    }

    private static void promise14() {
        Flapline sign = new Flapline();
        sign.letter(2, 19, 4, 0);
        sign.list(1);
        sign.show(0);
        sign.stick(1, 2, 0);
        sign.stick(1, 4, 1);
        Expect.same("14: set", 19, sign.column(0, 0));
        Expect.same("14: wear", 3, sign.column(0, 1));
        Expect.same("14: stuck", 0, sign.column(0, 2));
        Expect.same("14: set with stuck", 16, sign.column(1, 0));
        Expect.same("14: wear of 1", 1, sign.column(1, 1));
        Expect.same("14: two stuck", 2, sign.column(1, 2));
        Expect.index("14: below 0", sign, () -> sign.column(-1, 0));
        Expect.index("14: 8", sign, () -> sign.column(8, 3));
        Expect.argument("14: what below 0", sign, () -> sign.column(0, -1));
        Expect.argument("14: what 3", sign, () -> sign.column(7, 3));
    }

    private static void promise15() {
        Flapline sign = new Flapline();
        sign.letter(2, 1, 3, 0);
        sign.list(1);
        sign.list(11);
        sign.stick(0, 1, 1);
        int[] first = {1, 2, 0, 1, 4, 0, 1, 3};
        int[] second = {11, 5, 0, 1, 7, 0, 1, 6};
        sign.stick(5, 4, 0);
        for (int what = 0; what < 8; what++) {
            Expect.same("15: first " + what, first[what], sign.ofLine(0, what));
            Expect.same("15: second " + what, second[what], sign.ofLine(1, what));
        }
        sign.swap(0);
        sign.show(0);
        Expect.same("15: said", 1, sign.ofLine(0, 5));
        Expect.same("15: no step", 0, sign.ofLine(0, 6));
        Expect.same("15: no flip", 0, sign.ofLine(0, 7));
        Expect.same("15: no distance", 0, sign.ofLine(0, 4));
        Expect.index("15: below 0", sign, () -> sign.ofLine(-1, 0));
        Expect.index("15: no line 2", sign, () -> sign.ofLine(2, 8));
        Expect.argument("15: what below 0", sign, () -> sign.ofLine(0, -1));
        Expect.argument("15: what 8", sign, () -> sign.ofLine(0, 8));
    }

    private static void promise17() {
        Flapline sign = new Flapline();
        sign.letter(3, 1, 21, 16);
        sign.list(1);
        sign.show(0);
        String[] due = {"oo......", "........", ".o......", "........", ".oo....."};
        for (int height = 0; height < 5; height++) {
            Expect.same("17: row", due[height], sign.row(height));
        }
        Expect.index("17: below 0", sign, () -> sign.row(-1));
        Expect.index("17: 5", sign, () -> sign.row(5));
        sign.width(6);
        Expect.same("17: as wide", "......", sign.row(0));
    }

    private static void promise18() {
        Flapline sign = new Flapline();
        sign.letter(1, 3, 0, 0);
        sign.list(1);
        sign.stop(9, 0);
        sign.stop(9, 0);
        sign.wheel(10);
        sign.stick(7, 0, 1);
        sign.stick(7, 1, 0);
        sign.frame(2, 0, 7);
        sign.power(12, 4);
        int[] due = {8, 12, 4, 1, 1, 0, 2, 2, 1, 0, 0, 1, 0, 2, 2, 1, 1, 0};
        for (int what = 0; what < due.length; what++) {
            Expect.same("18: " + what, due[what], sign.sign(what));
        }
        Expect.argument("18: below 0", sign, () -> sign.sign(-1));
        Expect.argument("18: 18", sign, () -> sign.sign(18));
    }

    private static void reading() {
        Flapline sign = new Flapline();
        Expect.same("18: nothing to be read", NONE, sign.sign(5));
        sign.letter(1, 7, 0, 0);
        sign.letter(1, 15, 0, 0);
        sign.letter(3, 31, 31, 31);
        sign.list(2);
        sign.list(1);
        sign.list(333);
        Expect.same("18: 3 dots are no more than the blur", 1, sign.sign(5));
        sign.power(10, 2);
        Expect.same("18: 3 dots are more", NONE, sign.sign(5));
        sign.stick(4, 0, 1);
        Expect.same("18: 2 dots", 1, sign.sign(5));
        sign.power(10, 0);
        sign.show(0);
        Expect.same("18: stuck beside no one", 0, sign.sign(5));
        sign.stick(4, 3, 0);
        Expect.same("18: the other one now", 1, sign.sign(5));
    }

    private static void readingTwoAlike() {
        Flapline sign = new Flapline();
        sign.letter(1, 3, 0, 0);
        sign.letter(1, 5, 0, 0);
        sign.letter(1, 1, 0, 0);
        sign.list(1);
        sign.list(2);
        sign.stick(0, 0, 1);
        Expect.same("18: both are 1 apart", NONE, sign.sign(5));
        Expect.same("18: 1", 1, sign.ofLine(0, 4));
        Expect.same("18: 1, too", 1, sign.ofLine(1, 4));
        sign.list(3);
        Expect.same("18: a nearer one behind them", 2, sign.sign(5));
        sign.show(1);
        Expect.same("18: shown", 1, sign.sign(5));
    }

    private static void promise20() {
        Flapline sign = new Flapline();
        sign.letter(1, 31, 0, 0);
        sign.letter(1, 1, 0, 0);
        sign.letter(3, 31, 31, 31);
        sign.list(1);
        sign.list(2);
        sign.list(22);
        sign.list(333);
        sign.list(12);
        sign.stick(0, 0, 0);
        Expect.same("20: itself", 0, sign.apart(0, 0));
        Expect.same("20: one in the other", 4, sign.apart(0, 1));
        Expect.same("20: the other way", 4, sign.apart(1, 0));
        Expect.same("20: two dots", 1, sign.apart(1, 2));
        Expect.same("20: at other offsets of both", 4, sign.apart(2, 4));
        sign.width(5);
        Expect.same("20: where the last offset is the only one", 4, sign.apart(2, 4));
        sign.letter(3, 31, 31, 31);
        sign.letter(3, 31, 31, 15);
        sign.list(51);
        Expect.same("20: as wide as the sign", 0, sign.apart(5, 5));
        Expect.same("20: to one that is narrow", 14, sign.apart(5, 0));
        sign.width(8);
        Expect.same("20: too long", NONE, sign.apart(3, 0));
        Expect.same("20: too long behind", NONE, sign.apart(0, 3));
        Expect.same("20: too long both", NONE, sign.apart(3, 3));
        Expect.index("20: below 0", sign, () -> sign.apart(-1, 0));
        Expect.index("20: no line 6", sign, () -> sign.apart(0, 6));
        Expect.index("20: neither", sign, () -> sign.apart(9, 9));
    }

    private static void promise21() {
        Flapline sign = new Flapline();
        sign.letter(1, 7, 0, 0);
        sign.letter(1, 15, 0, 0);
        sign.letter(3, 31, 31, 31);
        sign.list(1);
        sign.list(2);
        sign.list(333);
        sign.width(4);
        sign.power(10, 1);
        Expect.same("21: itself", 0, sign.wouldRead(0));
        Expect.same("21: itself, too", 1, sign.wouldRead(1));
        Expect.same("21: too long", NONE, sign.wouldRead(2));
        for (int column = 0; column < 4; column++) {
            sign.stick(column, 3, 0);
        }
        Expect.same("21: read as the other one", 0, sign.wouldRead(1));
        for (int column = 0; column < 4; column++) {
            sign.stick(column, 4, 1);
        }
        Expect.same("21: four dots beside it are too many", NONE, sign.wouldRead(0));
        sign.power(10, 5);
        Expect.same("21: not by this blur", 0, sign.wouldRead(0));
        Expect.same("21: nothing is shown", NONE, sign.sign(17));
        Expect.index("21: below 0", sign, () -> sign.wouldRead(-1));
        Expect.index("21: no line 3", sign, () -> sign.wouldRead(3));
    }

    private static void promise22() {
        Flapline sign = new Flapline();
        Expect.yes("22: new", sign.isSound());
        sign.letter(1, 31, 0, 0);
        sign.letter(3, 31, 0, 31);
        sign.list(1);
        sign.list(2);
        sign.list(12);
        sign.list(21);
        sign.power(3, 3);
        for (int turn = 0; turn < 24; turn++) {
            sign.stick(turn % 8, turn % 5, turn % 3 - 1);
            sign.show(turn % 4);
            sign.swap(turn * 3 % 8);
            Expect.yes("22: behind change " + turn, sign.isSound());
        }
        sign.stop(1, 0);
        Expect.yes("22: with a stop", sign.isSound());
        sign.wheel(1);
        Expect.yes("22: at the end", sign.isSound());
        sign.width(4);
        Expect.yes("22: dark", sign.isSound());
    }

    private static void promise23() {
        Flapline sign = new Flapline();
        Expect.same("23: new", summed(sign), sign.digest());
        sign.letter(1, 31, 0, 0);
        sign.letter(2, 3, 24, 0);
        sign.letter(3, 31, 31, 31);
        sign.list(12);
        sign.list(1);
        sign.list(333);
        sign.power(4, 2);
        Expect.same("23: lines", summed(sign), sign.digest());
        sign.show(0);
        sign.stick(7, 3, 1);
        sign.frame(0, 1, 6);
        sign.stop(3, 1);
        sign.wheel(2);
        Expect.same("23: shown", summed(sign), sign.digest());
        sign.width(5);
        Expect.same("23: narrow", summed(sign), sign.digest());
        Expect.same("23: asking changes nothing", sign.digest(), sign.digest());
    }

    private static void promise23ByLinesAndWidths() {
        int[] rows = {1, 65, 234, 1111, 2, 3, 456, 6543};
        for (int lines = 0; lines <= 8; lines++) {
            Flapline sign = Signs.with(Signs.letters(5, 10, 15, 20, 25, 30), Arrays.copyOf(rows, lines));
            Expect.same("23: " + lines + " lines", summed(sign), sign.digest());
        }
        for (int width = 4; width <= 8; width++) {
            Flapline narrow = Signs.with(Signs.letters(31, 7), 1, 12, 121);
            narrow.width(width);
            narrow.show(1);
            narrow.stick(width - 1, 4, 1);
            Expect.same("23: by width " + width, summed(narrow), narrow.digest());
        }
    }

    private static long summed(Flapline sign) {
        long sum = 3769;
        for (int what = 0; what <= 17; what++) {
            sum = sum * 31 + sign.sign(what);
        }
        for (int column = 0; column < sign.sign(0); column++) {
            for (int what = 0; what <= 2; what++) {
                sum = sum * 31 + sign.column(column, what);
            }
        }
        for (int line = 0; line < sign.sign(4); line++) {
            for (int what = 1; what <= 7; what++) {
                sum = sum * 31 + sign.ofLine(line, what);
            }
            sum = sum * 31 + sign.step(line, 0);
            sum = sum * 31 + sign.step(line, 1);
            sum = sum * 31 + sign.wouldRead(line);
        }
        return sum * 31 + (sign.isSound() ? 1 : 0);
    }
}
