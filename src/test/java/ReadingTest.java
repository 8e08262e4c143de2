/** Description 3, sentence by sentence: distance, blur, and as which line the sign is read. */
public final class ReadingTest {
    private static final int NONE = Expect.NONE;

    public static void main(String[] args) {
        distanceAtTheLikestOffset();
        distanceCountsAllColumns();
        distanceCountsStuckDotsAsTheyShow();
        distanceOfOneThatCannotBePlaced();
        theLeastDistanceIsRead();
        blurIsThreeAtFirst();
        noMoreThanEachBlur();
        noOtherOneHasTheSame();
        theSameOfFartherOnesDoesNotMatter();
        theSameThreeTimes();
        oneThatCannotBePlacedIsNotRead();
        nothingListed();
        theLastOfEight();
        wouldReadTheGoal();
        wouldReadWithStuckDots();
        Expect.finish();
    }

    private static void distanceAtTheLikestOffset() {
        for (int offset = 0; offset < 8; offset++) {
            Flapline sign = Signs.with(Signs.letters(7), 1);
            Expect.same("3: dark", 3, sign.ofLine(0, 4));
            Signs.paint(sign, offset, 7);
            Expect.same("3: there", 0, sign.ofLine(0, 4));
            Signs.paint(sign, offset, 15);
            Expect.same("3: a dot more", 1, sign.ofLine(0, 4));
            Signs.paint(sign, offset, 12);
            Expect.same("3: two less, one more", 3, sign.ofLine(0, 4));
            Expect.same("3: though the best offset is another", 0, sign.ofLine(0, 2));
        }
    }

    private static void distanceCountsAllColumns() {
        Flapline sign = Signs.with(Signs.letters(7), 1);
        Signs.paint(sign, 0, 7);
        Signs.paint(sign, 5, 1);
        Expect.same("3: one beside it", 1, sign.ofLine(0, 4));
        Signs.paint(sign, 7, 24);
        Expect.same("3: three beside it", 3, sign.ofLine(0, 4));
        Signs.paint(sign, 3, 31);
        Expect.same("3: eight at each of two offsets", 8, sign.ofLine(0, 4));
        Signs.paint(sign, 0, 31);
        Signs.paint(sign, 1, 31);
        Signs.paint(sign, 2, 31);
        Signs.paint(sign, 4, 31);
        Signs.paint(sign, 5, 31);
        Signs.paint(sign, 6, 31);
        Signs.paint(sign, 7, 31);
        Expect.same("3: all are bright", 37, sign.ofLine(0, 4));
    }

    private static void distanceCountsStuckDotsAsTheyShow() {
        Flapline sign = Signs.with(Signs.letters(7), 1);
        sign.stick(0, 0, 0);
        Expect.same("3: as it shows", 3, sign.ofLine(0, 4));
        sign.stick(1, 0, 1);
        Expect.same("3: a bright one of it", 2, sign.ofLine(0, 4));
        sign.stick(2, 4, 1);
        Expect.same("3: a bright one beside it", 3, sign.ofLine(0, 4));
        sign.swap(1);
        Expect.same("3: swapped", 4, sign.ofLine(0, 4));
    }

    private static void distanceOfOneThatCannotBePlaced() {
        Flapline sign = new Flapline();
        sign.letter(3, 31, 31, 31);
        sign.letter(1, 31, 0, 0);
        Signs.list(sign, 11, 111);
        Expect.same("3: seven of eight", 30, sign.ofLine(0, 4));
        Expect.same("3: eleven of eight", NONE, sign.ofLine(1, 4));
        sign.width(7);
        Expect.same("3: seven of seven", 30, sign.ofLine(0, 4));
        sign.width(6);
        Expect.same("3: seven of six", NONE, sign.ofLine(0, 4));
    }

    private static void theLeastDistanceIsRead() {
        Flapline sign = Signs.with(Signs.letters(31, 7, 1), 1, 2, 3);
        Expect.same("3: one dot from line 2", 2, sign.sign(5));
        Signs.paint(sign, 6, 3);
        Expect.same("3: as far from line 1 and 2", NONE, sign.sign(5));
        Signs.paint(sign, 6, 7);
        Expect.same("3: that is line 1", 1, sign.sign(5));
        Signs.paint(sign, 6, 15);
        Expect.same("3: as far from line 0 and 1", NONE, sign.sign(5));
        Signs.paint(sign, 6, 31);
        Expect.same("3: that is line 0", 0, sign.sign(5));
        Signs.paint(sign, 0, 1);
        Expect.same("3: one beside it", 0, sign.sign(5));
    }

    private static void blurIsThreeAtFirst() {
        Expect.same("3: at first", 3, new Flapline().sign(2));
        Expect.same("3: three dots", 0, Signs.with(Signs.letters(7), 1).sign(5));
        Expect.same("3: four dots", NONE, Signs.with(Signs.letters(15), 1).sign(5));
    }

    private static void noMoreThanEachBlur() {
        for (int blur = 0; blur <= 10; blur++) {
            Flapline sign = Signs.with(Signs.letters(31), 1);
            sign.power(10, blur);
            sign.show(0);
            for (int dot = 0; dot < blur; dot++) {
                sign.stick(3 + 2 * (dot / 5), dot % 5, 1);
            }
            Expect.same("3: as far as the blur", blur, sign.ofLine(0, 4));
            Expect.same("3: read by blur " + blur, 0, sign.sign(5));
            sign.stick(7, 4, 1);
            Expect.same("3: one more", blur + 1, sign.ofLine(0, 4));
            Expect.same("3: not read by blur " + blur, NONE, sign.sign(5));
        }
    }

    private static void noOtherOneHasTheSame() {
        Flapline sign = Signs.with(Signs.letters(3, 5), 1, 2);
        Expect.same("3: two from the dark", NONE, sign.sign(5));
        Signs.paint(sign, 0, 1);
        Expect.same("3: one from either", NONE, sign.sign(5));
        Signs.paint(sign, 0, 3);
        Expect.same("3: the first one", 0, sign.sign(5));
        Signs.paint(sign, 0, 5);
        Expect.same("3: the second one", 1, sign.sign(5));
        Flapline same = Signs.with(Signs.letters(31, 31), 1, 2);
        same.show(0);
        Expect.same("3: both are said", NONE, same.sign(5));
        Flapline far = Signs.with(Signs.letters(15, 30), 1, 2);
        Expect.same("3: neither within the blur", NONE, far.sign(5));
    }

    private static void theSameOfFartherOnesDoesNotMatter() {
        Flapline nearFirst = Signs.with(Signs.letters(1, 3, 5), 1, 2, 3);
        Expect.same("3: two behind it as far as each other", 0, nearFirst.sign(5));
        Flapline nearLast = Signs.with(Signs.letters(3, 5, 1), 1, 2, 3);
        Expect.same("3: two ahead of it", 2, nearLast.sign(5));
        Flapline between = Signs.with(Signs.letters(3, 1, 5), 1, 2, 3);
        Expect.same("3: one on either side", 1, between.sign(5));
    }

    private static void theSameThreeTimes() {
        Flapline sign = Signs.with(Signs.letters(3, 5, 9, 7, 2), 4, 1, 2, 3);
        Expect.same("3: three alike behind one that is farther", NONE, sign.sign(5));
        sign.list(5);
        Expect.same("3: a nearer one behind them", 4, sign.sign(5));
        Signs.paint(sign, 0, 13);
        Expect.same("3: two alike", NONE, sign.sign(5));
        Signs.paint(sign, 0, 9);
        Expect.same("3: one of them", 3, sign.sign(5));
    }

    private static void oneThatCannotBePlacedIsNotRead() {
        Flapline sign = new Flapline();
        sign.letter(3, 1, 0, 0);
        sign.letter(1, 3, 0, 0);
        Signs.list(sign, 11, 111, 2);
        Expect.same("3: two dots, that of eleven columns none", NONE, sign.sign(5));
        sign.width(6);
        Expect.same("3: line 2 alone can be placed", 2, sign.sign(5));
        Flapline ahead = new Flapline();
        ahead.letter(3, 1, 0, 0);
        ahead.list(111);
        Expect.same("3: the only one cannot", NONE, ahead.sign(5));
        ahead.power(10, 10);
        Expect.same("3: by no blur", NONE, ahead.sign(5));
    }

    private static void nothingListed() {
        Flapline sign = new Flapline();
        Expect.same("3: no line", NONE, sign.sign(5));
        sign.letter(1, 1, 0, 0);
        Expect.same("3: a letter alone", NONE, sign.sign(5));
        sign.list(1);
        Expect.same("3: a line", 0, sign.sign(5));
    }

    private static void theLastOfEight() {
        Flapline sign = Signs.with(Signs.letters(1, 2, 4, 8, 16, 31), 12, 13, 14, 15, 23, 24, 25, 6);
        sign.power(40, 0);
        for (int line = 0; line < 8; line++) {
            Expect.same("3: shown", 1, sign.show(line));
            Expect.same("3: read", line, sign.sign(5));
            Expect.same("3: would be read", line, sign.wouldRead(line));
        }
    }

    private static void wouldReadTheGoal() {
        Flapline sign = Signs.with(Signs.letters(31, 7), 1, 2, 1212);
        sign.list(2121);
        sign.show(1);
        Expect.same("3: what is shown does not matter", 0, sign.wouldRead(0));
        Expect.same("3: itself", 1, sign.wouldRead(1));
        Expect.same("3: seven columns", 2, sign.wouldRead(2));
        sign.width(6);
        Expect.same("3: not in six", NONE, sign.wouldRead(2));
        sign.power(1, 0);
        sign.width(8);
        Expect.same("3: by blur 0", 3, sign.wouldRead(3));
        sign.letter(1, 7, 0, 0);
        sign.list(3);
        Expect.same("3: with its double", NONE, sign.wouldRead(1));
        Expect.same("3: the double, too", NONE, sign.wouldRead(4));
    }

    /** Also where there is no plan: the goal counts alone. */
    private static void wouldReadWithStuckDots() {
        Flapline sign = Signs.with(Signs.letters(31, 15), 1, 2, 11);
        sign.power(5, 1);
        Expect.same("3: no plan", NONE, sign.ofLine(2, 6));
        Expect.same("3: but read", 2, sign.wouldRead(2));
        for (int column = 0; column < 8; column++) {
            sign.stick(column, 4, 0);
        }
        Expect.same("3: it would be the other one", 1, sign.wouldRead(0));
        Expect.same("3: this stays", 1, sign.wouldRead(1));
        Expect.same("3: two dots are more than the blur", NONE, sign.wouldRead(2));
        sign.power(5, 2);
        Expect.same("3: two dots are no more than the blur", 2, sign.wouldRead(2));
        sign.stick(7, 0, 1);
        sign.stick(7, 1, 1);
        Expect.same("3: it would go there", 7, sign.ofLine(1, 2));
        Expect.same("3: and be read so", 1, sign.wouldRead(1));
    }
}
