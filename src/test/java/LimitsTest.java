/** Promise by promise: the least and the greatest value that is taken, and what is answered at the edges. */
public final class LimitsTest {
    private static final int NONE = Expect.NONE;

    public static void main(String[] args) {
        promise1();
        promise2();
        promise2Forgets();
        promise2Keeps();
        promise3();
        promise4();
        promise5();
        promise6();
        promise7();
        promise8();
        promise9();
        promise10();
        promise11();
        promise12();
        promise13();
        promise14();
        promise15();
        promise15WithoutAPlan();
        promise16();
        promise17();
        promise18();
        promise20();
        promise20AtTheWidths();
        promise22();
        promise23();
        Expect.finish();
    }

    private static void promise1() {
        Flapline sign = new Flapline();
        int[] due = {8, 10, 3, 0, 0, NONE, 0, 0, 0, 0, 0, 0, 0, 7, 0, 0, 0, NONE};
        for (int what = 0; what < due.length; what++) {
            Expect.same("1: sign " + what, due[what], sign.sign(what));
        }
        Flapline other = Signs.with(Signs.letters(31), 1);
        other.show(0);
        other.stick(7, 4, 1);
        other.width(5);
        Expect.same("1: each object is by itself", Whole.of(new Flapline()), Whole.of(sign));
        Expect.same("1: the first letter", 1, sign.letter(1, 1, 0, 0));
        Expect.same("1: the first line", 0, sign.list(1));
        Expect.same("1: the first stop", 0, sign.stop(1, 0));
    }

    private static void promise2() {
        Flapline sign = new Flapline();
        Expect.same("2: to the least", 8, sign.width(4));
        Expect.same("2: to the greatest", 4, sign.width(8));
        Expect.same("2: the same again", 8, sign.width(8));
        Expect.same("2: 8", 8, sign.sign(0));
        Expect.same("2: 5", 8, sign.width(5));
        Expect.same("2: 6", 5, sign.width(6));
        Expect.same("2: 7", 6, sign.width(7));
        Expect.same("2: 7 is told", 7, sign.sign(0));
    }

    /** Whatever the width was before, and whatever it is then. */
    private static void promise2Forgets() {
        for (int before = 4; before <= 8; before++) {
            for (int then = 4; then <= 8; then++) {
                Flapline sign = Signs.with(Signs.letters(31, 15), 11, 22);
                sign.width(before);
                sign.show(0);
                sign.show(1);
                Signs.stickColumn(sign, before - 1, 1);
                sign.stick(0, 0, 0);
                Expect.same("2: returns that before", before, sign.width(then));
                Signs.shows("2: dark", sign);
                Expect.same("2: nothing is stuck", 0, sign.sign(6));
                Expect.same("2: no flips", 0, sign.sign(7));
                Expect.same("2: none is shown last", NONE, sign.sign(17));
                for (int column = 0; column < then; column++) {
                    forgotten(sign, column);
                }
                Expect.same("2: the best offset", 0, sign.ofLine(0, 2));
                Expect.same("2: no harm", 0, sign.ofLine(0, 3));
                sign.width(8);
                for (int column = 4; column < 8; column++) {
                    forgotten(sign, column);
                }
            }
        }
    }

    private static void forgotten(Flapline sign, int column) {
        Expect.same("2: no wear", 0, sign.column(column, 1));
        Expect.same("2: none stuck in it", 0, sign.column(column, 2));
        for (int height = 0; height < 5; height += 4) {
            Expect.same("2: no flips of a dot", 0, sign.dot(column, height, 1));
            Expect.same("2: free", NONE, sign.dot(column, height, 2));
        }
    }

    private static void promise2Keeps() {
        Flapline sign = Signs.with(Signs.letters(31, 15), 11, 22);
        sign.power(9, 4);
        sign.show(0);
        sign.stop(2, 0);
        sign.stop(9, 1);
        sign.wheel(4);
        Signs.send(sign, 2, 0);
        Signs.send(sign, 2, 0);
        sign.frame(3, 0, 0);
        sign.width(6);
        int[] due = {6, 9, 4, 2, 2, NONE, 0, 0, 4, 1, 1, 1, 0, 2, 2, 1, 2, NONE};
        for (int what = 0; what < due.length; what++) {
            Expect.same("2: sign " + what + " behind width", due[what], sign.sign(what));
        }
        Expect.same("2: the row of a line", 22, sign.ofLine(1, 0));
        Expect.same("2: the way goes on", NONE, sign.wheel(7));
    }

    private static void promise3() {
        Flapline sign = Signs.with(Signs.letters(31), 1);
        Expect.same("3: 10 at first", 10, sign.power(1, 0));
        Expect.same("3: the least power", 1, sign.sign(1));
        Expect.same("3: the least blur", 0, sign.sign(2));
        Expect.same("3: power before", 1, sign.power(40, 10));
        Expect.same("3: the greatest power", 40, sign.sign(1));
        Expect.same("3: the greatest blur", 10, sign.sign(2));
        Expect.same("3: read by it", 0, sign.sign(5));
        Expect.same("3: power before", 40, sign.power(40, 4));
        Expect.same("3: the blur alone", 4, sign.sign(2));
        Expect.same("3: not read by it", NONE, sign.sign(5));
        Expect.same("3: power before", 40, sign.power(4, 4));
        Expect.same("3: both", 4, sign.power(10, 3));
    }

    private static void promise4() {
        Flapline sign = new Flapline();
        Expect.same("4: 31 of one", 1, sign.letter(1, 31, 0, 0));
        Expect.same("4: 31 of two", 2, sign.letter(2, 31, 31, 0));
        Expect.same("4: 31 of three", 3, sign.letter(3, 31, 31, 31));
        Expect.same("4: the first alone", 4, sign.letter(3, 1, 0, 0));
        Expect.same("4: the second alone", 5, sign.letter(3, 0, 1, 0));
        Expect.same("4: the third alone", 6, sign.letter(3, 0, 0, 1));
        sign.power(40, 3);
        int[][] due = {{31, 0, 0}, {31, 31, 0}, {31, 31, 31}, {1, 0, 0}, {0, 1, 0}, {0, 0, 1}};
        for (int letter = 1; letter <= 6; letter++) {
            sign.list(letter);
            sign.show(letter - 1);
            Signs.shows("4: letter " + letter, sign, due[letter - 1]);
        }
        Flapline two = new Flapline();
        Expect.same("4: the first of two", 1, two.letter(2, 16, 0, 0));
        Expect.same("4: the second of two", 2, two.letter(2, 0, 16, 0));
        Expect.same("4: the same is another one", 3, two.letter(2, 0, 16, 0));
    }

    private static void promise5() {
        Flapline sign = new Flapline();
        for (int letter = 1; letter <= 6; letter++) {
            sign.letter(1, letter, 0, 0);
        }
        int[] rows = {1, 6, 11, 66, 111, 666, 1111, 6666};
        for (int line = 0; line < 8; line++) {
            Expect.same("5: " + rows[line], line, sign.list(rows[line]));
            Expect.same("5: row of " + rows[line], rows[line], sign.ofLine(line, 0));
            Expect.same("5: length of " + rows[line], line / 2 * 2 + 1, sign.ofLine(line, 1));
        }
        Flapline one = Signs.with(Signs.letters(1));
        Expect.thrown("5: 2 of one", Expect.ARGUMENT, () -> one.list(2));
        Expect.same("5: 1 of one", 0, one.list(1));
    }

    private static void promise6() {
        Flapline sign = new Flapline();
        for (int column = 0; column < 8; column += 7) {
            for (int height = 0; height < 5; height += 4) {
                Expect.same("6: at 1", 0, sign.stick(column, height, 1));
                Expect.same("6: shows 1", 1, sign.dot(column, height, 0));
                Expect.same("6: at 1 again", 1, sign.stick(column, height, 1));
                Expect.same("6: at 0", 1, sign.stick(column, height, 0));
                Expect.same("6: shows 0", 0, sign.dot(column, height, 0));
                Expect.same("6: stuck at 0", 0, sign.dot(column, height, 2));
                Expect.same("6: free", 0, sign.stick(column, height, NONE));
                Expect.same("6: free again", 0, sign.stick(column, height, NONE));
                Expect.same("6: is free", NONE, sign.dot(column, height, 2));
                sign.stick(column, height, 1);
            }
        }
        Expect.same("6: four are stuck", 4, sign.sign(6));
        Signs.shows("6: those", sign, 17, 0, 0, 0, 0, 0, 0, 17);
        Expect.same("6: no flip", 0, sign.sign(7));
        Expect.same("6: no wear", 0, sign.column(0, 1));
    }

    private static void promise7() {
        Flapline sign = new Flapline();
        sign.letter(3, 31, 31, 31);
        sign.letter(3, 1, 1, 1);
        Signs.list(sign, 11, 2, 1);
        Expect.same("7: nothing there yet", 0, sign.swap(0));
        Expect.same("7: nor in the last", 0, sign.swap(7));
        sign.stick(7, 0, 0);
        sign.show(0);
        Expect.same("7: the first", 5, sign.swap(0));
        sign.stick(0, 0, 0);
        Signs.stickColumn(sign, 6, 0);
        Signs.stickColumn(sign, 5, 0);
        sign.show(0);
        Expect.same("7: it is told", 4, sign.swap(0));
        Expect.same("7: not again", 0, sign.swap(0));
        Expect.same("7: flips stay", 9, sign.dot(0, 0, 1) + sign.dot(0, 1, 1) + sign.dot(0, 2, 1)
                + sign.dot(0, 3, 1) + sign.dot(0, 4, 1));
        Expect.same("7: all of them", 34, sign.sign(7));
        Expect.same("7: three steps and one", 4, sign.sign(8));
        Expect.same("7: the line shown last stays", 0, sign.sign(17));
    }

    private static void promise8() {
        Flapline sign = Signs.with(Signs.letters(1, 2, 3, 4, 5, 6), 1, 2, 3, 4, 5, 6, 11, 22);
        Expect.same("8: the first line", 1, sign.show(0));
        Expect.same("8: no step", 0, sign.show(0));
        Expect.same("8: the last line", 1, sign.show(7));
        Signs.shows("8: the last line", sign, 2, 0, 2);
        sign.power(1, 3);
        Expect.same("8: three dots, one that stays", 2, sign.show(4));
        Expect.same("8: steps ever", 4, sign.sign(8));
    }

    private static void promise9() {
        Flapline sign = Signs.with(Signs.letters(1, 2, 3, 4, 5, 6), 1, 2, 3, 4, 5, 6, 11, 22);
        Expect.same("9: number 0, line 0, its check", 2, sign.frame(0, 0, 1));
        Expect.same("9: number 3, line 0, check 10", 2, sign.frame(3, 0, 10));
        Expect.same("9: number 7, line 0, check 0", 2, sign.frame(7, 0, 0));
        Expect.same("9: number 0, line 7, check 3", 2, sign.frame(0, 7, 3));
        Expect.same("9: the last line", 7, sign.sign(17));
        Expect.same("9: the least check is broken", 0, sign.frame(1, 0, 0));
        Expect.same("9: the greatest check is broken", 0, sign.frame(1, 0, 10));
        Expect.same("9: number 7, line 7 is old", 1, sign.frame(7, 7, 2));
        Expect.same("9: broken", 2, sign.sign(9));
        Expect.same("9: old", 1, sign.sign(10));
        Expect.same("9: taken", 4, sign.sign(11));
    }

    private static void promise10() {
        Flapline sign = Signs.with(Signs.letters(1, 2, 3, 4, 5, 6), 1, 2, 3, 4, 5, 6, 11, 22);
        Expect.same("10: way 1, line 0", 0, sign.stop(1, 0));
        Expect.same("10: way 99, line 7", 1, sign.stop(99, 7));
        Expect.same("10: rolls past the first", 1, sign.wheel(1));
        Expect.same("10: shows line 7", 7, sign.sign(17));
        Expect.same("10: told on the way", 2, sign.stop(99, 0));
        Expect.same("10: the same again", 3, sign.stop(99, 0));
        Expect.same("10: told behind them", 4, sign.stop(1, 0));
        Expect.same("10: the sixth", 5, sign.stop(2, 1));
        Expect.same("10: six", 6, sign.sign(14));
        Expect.same("10: all of it", 5, sign.wheel(299));
        Expect.same("10: 1 is left", 1, sign.sign(16));
        Expect.same("10: to the end", NONE, sign.wheel(1));
    }

    private static void promise11() {
        Flapline sign = Signs.with(Signs.letters(1, 2), 1, 2);
        for (int stop = 0; stop < 6; stop++) {
            sign.stop(99, 1);
        }
        Expect.same("11: the least", 0, sign.wheel(1));
        Expect.same("11: the greatest", 3, sign.wheel(300));
        Expect.same("11: 301 of 99 each", 4, sign.sign(16));
        Expect.same("11: to the last", 5, sign.wheel(290));
        Expect.same("11: three short of it", 96, sign.sign(16));
        Expect.same("11: there", NONE, sign.wheel(3));
        Expect.same("11: none is left", 0, sign.sign(16));
    }

    private static void promise12() {
        Flapline sign = Signs.with(Signs.letters(1, 2), 1, 2);
        for (int stops = 0; stops <= 6; stops++) {
            Expect.same("12: stops", stops, sign.again());
            Expect.same("12: next", 0, sign.sign(15));
            Expect.same("12: wheel", 0, sign.sign(16));
            if (stops < 6) {
                sign.stop(2, stops % 2);
                sign.wheel(stops + 1);
            }
        }
    }

    private static void promise13() {
        Flapline sign = new Flapline();
        sign.letter(3, 16, 1, 16);
        sign.list(1);
        sign.list(11);
        sign.show(1);
        sign.stick(7, 4, 1);
        sign.stick(7, 0, 0);
        Expect.same("13: the first column, on top", 0, sign.dot(0, 0, 0));
        Expect.same("13: the first column, below", 1, sign.dot(0, 4, 0));
        Expect.same("13: its flips", 1, sign.dot(0, 4, 1));
        Expect.same("13: stuck at 1 below in the last", 1, sign.dot(7, 4, 2));
        Expect.same("13: bright", 1, sign.dot(7, 4, 0));
        Expect.same("13: never flipped", 0, sign.dot(7, 4, 1));
        Expect.same("13: stuck at 0 on top of the last", 0, sign.dot(7, 0, 2));
        Expect.same("13: dark", 0, sign.dot(7, 0, 0));
        Expect.same("13: free", NONE, sign.dot(7, 1, 2));
        sign.swap(0);
        Expect.same("13: a swapped one keeps its flips", 1, sign.dot(0, 4, 1));
        Expect.same("13: it is dark", 0, sign.dot(0, 4, 0));
        sign.swap(7);
        Expect.same("13: a swapped one is free", NONE, sign.dot(7, 4, 2));
    }

    private static void promise14() {
        Flapline sign = Signs.with(Signs.letters(31, 1), 1, 2);
        Expect.same("14: nothing yet", 0, sign.column(0, 0) + sign.column(0, 1) + sign.column(0, 2));
        sign.show(0);
        Expect.same("14: all bright", 31, sign.column(0, 0));
        Expect.same("14: wear", 5, sign.column(0, 1));
        for (int height = 0; height < 5; height++) {
            Expect.same("14: stuck", height, sign.column(7, 2));
            sign.stick(7, height, height % 2);
        }
        Expect.same("14: all are stuck", 5, sign.column(7, 2));
        Expect.same("14: two of them bright", 10, sign.column(7, 0));
        Expect.same("14: none worn", 0, sign.column(7, 1));
        sign.show(1);
        Expect.same("14: wear of both ways", 9, sign.column(0, 1));
        Expect.same("14: one is bright", 1, sign.column(0, 0));
        sign.swap(0);
        Expect.same("14: no wear", 0, sign.column(0, 1));
    }

    private static void promise15() {
        Flapline sign = new Flapline();
        sign.letter(2, 7, 1, 0);
        sign.list(1);
        sign.list(11);
        sign.stick(1, 0, 0);
        sign.stick(6, 0, 1);
        sign.stick(2, 4, 1);
        int[] one = {1, 2, 5, 1, 4, 0, 1, 3};
        int[] two = {11, 5, 2, 1, 8, 0, 1, 7};
        for (int what = 0; what <= 7; what++) {
            Expect.same("15: line 0, " + what, one[what], sign.ofLine(0, what));
            Expect.same("15: line 1, " + what, two[what], sign.ofLine(1, what));
        }
        sign.show(1);
        int[] shown = {11, 5, 2, 1, 1, 0, 0, 0};
        for (int what = 0; what <= 7; what++) {
            Expect.same("15: shown, " + what, shown[what], sign.ofLine(1, what));
        }
        sign.stick(2, 4, 0);
        Expect.same("15: with that dot stuck at 0", 1, sign.ofLine(1, 5));
        Expect.same("15: no distance", 0, sign.ofLine(1, 4));
    }

    private static void promise15WithoutAPlan() {
        Flapline sign = Signs.with(Signs.letters(31), 11, 1, 1111);
        sign.width(6);
        sign.power(5, 3);
        int[] wrong = {11, 3, 0, 0, 10, 0, NONE, NONE};
        int[] tooLong = {1111, 7, NONE, NONE, NONE, 0, NONE, NONE};
        int[] right = {1, 1, 0, 0, 5, 0, 1, 5};
        for (int what = 0; what <= 7; what++) {
            Expect.same("15: each way is wrong, " + what, wrong[what], sign.ofLine(0, what));
            Expect.same("15: too long, " + what, tooLong[what], sign.ofLine(2, what));
            Expect.same("15: with a plan, " + what, right[what], sign.ofLine(1, what));
        }
        sign.show(1);
        Expect.same("15: said", 1, sign.ofLine(1, 5));
        Expect.same("15: a plan of no step", 0, sign.ofLine(1, 6));
        Expect.same("15: and no flip", 0, sign.ofLine(1, 7));
    }

    private static void promise16() {
        Flapline sign = Signs.with(Signs.letters(31), 11, 1111);
        Expect.same("16: the first of one", 5, sign.step(0, 0));
        Expect.same("16: no second", NONE, sign.step(0, 1));
        Expect.same("16: the first of two", 17, sign.step(1, 0));
        Expect.same("16: the second of two", 68, sign.step(1, 1));
        Expect.same("16: no third", NONE, sign.step(1, 2));
        Expect.same("16: nor an eighth", NONE, sign.step(1, 8));
        Expect.same("16: nor any", NONE, sign.step(1, Integer.MAX_VALUE));
        sign.show(0);
        Expect.same("16: no step is left", NONE, sign.step(0, 0));
        Expect.same("16: none behind that", NONE, sign.step(0, 1));
        sign.width(6);
        Expect.same("16: no plan", NONE, sign.step(1, 0));
        Expect.same("16: no plan, far", NONE, sign.step(1, Integer.MAX_VALUE));
    }

    private static void promise17() {
        for (int width = 4; width <= 8; width++) {
            Flapline sign = new Flapline();
            sign.width(width);
            for (int height = 0; height < 5; height++) {
                Expect.same("17: dark", "........".substring(0, width), sign.row(height));
            }
            Signs.paint(sign, 0, 1);
            Signs.paint(sign, width - 1, 16);
            Expect.same("17: on top", "o.......".substring(0, width), sign.row(0));
            Expect.same("17: below", ".......o".substring(8 - width), sign.row(4));
            for (int column = 0; column < width; column++) {
                Signs.stickColumn(sign, column, 1);
            }
            Expect.same("17: bright", "oooooooo".substring(0, width), sign.row(2));
        }
    }

    private static void promise18() {
        Flapline sign = Signs.with(Signs.letters(1, 2, 4, 8, 16, 31), 1, 2, 3, 4, 5, 6, 11, 22);
        for (int stop = 0; stop < 6; stop++) {
            sign.stop(1, stop);
        }
        sign.power(40, 0);
        sign.wheel(5);
        for (int column = 0; column < 8; column++) {
            Signs.stickColumn(sign, column, 0);
        }
        Signs.send(sign, 3, 7);
        sign.frame(0, 0, 0);
        Signs.send(sign, 0, 0);
        int[] due = {8, 40, 0, 6, 8, NONE, 40, 5, 1, 1, 1, 1, 0, 3, 6, 5, 0, 7};
        for (int what = 0; what < due.length; what++) {
            Expect.same("18: " + what, due[what], sign.sign(what));
        }
        sign.wheel(1);
        Expect.same("18: next behind the last", NONE, sign.sign(15));
        Expect.same("18: wheel there", 0, sign.sign(16));
    }

    private static void promise20() {
        Flapline sign = new Flapline();
        sign.letter(1, 31, 0, 0);
        sign.letter(2, 0, 31, 0);
        sign.letter(2, 31, 15, 0);
        sign.letter(3, 31, 31, 31);
        Signs.list(sign, 1, 2, 3, 44, 444, 11, 4, 13);
        for (int line = 0; line < 8; line++) {
            Expect.same("20: itself", line == 4 ? NONE : 0, sign.apart(line, line));
        }
        Expect.same("20: the same dots at another offset", 0, sign.apart(0, 1));
        Expect.same("20: a column more", 4, sign.apart(0, 2));
        Expect.same("20: the most", 25, sign.apart(0, 3));
        Expect.same("20: in whichever order", 25, sign.apart(3, 0));
        Expect.same("20: two and three", 5, sign.apart(5, 6));
        Expect.same("20: a dark one between", 9, sign.apart(6, 7));
        Expect.same("20: one cannot be placed", NONE, sign.apart(4, 0));
        Expect.same("20: the other cannot", NONE, sign.apart(0, 4));
        int before = sign.apart(0, 2);
        for (int column = 0; column < 8; column++) {
            Signs.stickColumn(sign, column, column % 2);
        }
        Expect.same("20: stuck dots do not matter", before, sign.apart(0, 2));
        Expect.same("20: nor for the most", 25, sign.apart(3, 0));
    }

    private static void promise20AtTheWidths() {
        Flapline sign = new Flapline();
        sign.letter(1, 31, 0, 0);
        sign.letter(3, 0, 0, 31);
        sign.letter(3, 31, 0, 0);
        Signs.list(sign, 2, 3, 1, 13);
        int[] due = {10, 0, 0, 0, 0};
        for (int width = 4; width <= 8; width++) {
            sign.width(width);
            Expect.same("20: by width " + width, due[width - 4], sign.apart(0, 1));
            Expect.same("20: with one that is anywhere", 0, sign.apart(0, 2));
            Expect.same("20: of five columns", width < 5 ? NONE : 5, sign.apart(3, 2));
            Expect.same("20: both of five", width < 5 ? NONE : 0, sign.apart(3, 3));
        }
    }

    private static void promise22() {
        Flapline sign = new Flapline();
        Expect.yes("22: nothing there yet", sign.isSound());
        sign.letter(3, 31, 31, 31);
        sign.letter(1, 31, 0, 0);
        Signs.list(sign, 2, 22, 222, 2222, 12, 21, 1, 111);
        sign.power(5, 3);
        for (int line = 0; line < 8; line++) {
            sign.show(line);
            Expect.yes("22: behind line " + line, sign.isSound());
            sign.stick(line, line % 5, line % 2);
            Expect.yes("22: with a stuck dot", sign.isSound());
            sign.show(6);
            sign.swap(line);
            Expect.yes("22: with a swapped column", sign.isSound());
        }
        sign.stop(1, 0);
        Expect.yes("22: on the way", sign.isSound());
        sign.wheel(1);
        Expect.yes("22: next is none", sign.isSound());
        sign.again();
        Expect.yes("22: next is 0", sign.isSound());
        sign.width(4);
        Expect.yes("22: four columns", sign.isSound());
    }

    /** The digest of a new sign, computed by hand from its eighteen numbers, eight columns and isSound(). */
    private static void promise23() {
        int[] sign = {8, 10, 3, 0, 0, NONE, 0, 0, 0, 0, 0, 0, 0, 7, 0, 0, 0, NONE};
        long due = 3769;
        for (int number : sign) {
            due = due * 31 + number;
        }
        for (int number = 0; number < 24; number++) {
            due = due * 31;
        }
        Expect.same("23: new", due * 31 + 1, new Flapline().digest());
    }
}
