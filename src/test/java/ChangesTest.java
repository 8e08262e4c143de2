/** Description 2, sentence by sentence: power, goals, ways, wrong pictures, plans, flips, wear, swapping. */
public final class ChangesTest {
    private static final int NONE = Expect.NONE;

    public static void main(String[] args) {
        tenDotsAtFirst();
        powerFrom1To40();
        exactlyThePower();
        aColumnAboveThePower();
        aColumnOfThePower();
        aDotCountsOnceHoweverItTurns();
        onlyTheChangedColumns();
        theGoalIsAtTheBestOffset();
        theGoalKeepsStuckDots();
        withoutAnyNoStep();
        theLastPictureIsNotOnTheWay();
        thePictureAheadIsNotOnTheWay();
        anotherListedLineIsWrong();
        anotherLineAtEachOffsetIsWrong();
        anExtraDotMakesItNoLine();
        theOneToBeShownIsNotWrong();
        theOneToBeShownAndAnotherIsWrong();
        oneThatIsSaidAsItBeginsIsNotWrong();
        oneThatWasSaidBeforeIsWrong();
        oneThatIsSaidAndAnotherIsWrong();
        fewestStepsWithoutAWrongPicture();
        fewestStepsByTheRightPairs();
        theSmallestFirstStep();
        theSmallestSecondStep();
        eightSteps();
        thereMayBeNone();
        flipsOfStepsAlone();
        flipsToBothFaces();
        wearSinceItWasSwapped();
        aSwappedColumnIsFreeAndDark();
        Expect.finish();
    }

    private static Flapline wide(int first, int second, int third) {
        Flapline sign = new Flapline();
        sign.letter(3, first, second, third);
        sign.list(1);
        return sign;
    }

    private static void tenDotsAtFirst() {
        Flapline ten = new Flapline();
        ten.letter(2, 31, 31, 0);
        ten.list(1);
        Signs.plan("2: ten dots", ten, 0, 3);
        Signs.plan("2: eleven dots", wide(31, 31, 1), 0, 1, 6);
    }

    /** All 40 dots are to be flipped. */
    private static Flapline allToBeFlipped(int power) {
        Flapline sign = Signs.with(Signs.letters(31), 1);
        for (int column = 1; column < 8; column++) {
            Signs.paint(sign, column, 31);
        }
        sign.power(power, 3);
        return sign;
    }

    private static void powerFrom1To40() {
        Flapline most = allToBeFlipped(40);
        Expect.same("2: all dots", 40, most.ofLine(0, 7));
        Signs.plan("2: by 40", most, 0, 255);
        Expect.same("2: all at once", 1, most.show(0));
        Signs.shows("2: as told", most, 31);
        Signs.plan("2: by 39", allToBeFlipped(39), 0, 1, 254);
        Signs.plan("2: by 35", allToBeFlipped(35), 0, 1, 254);
        Signs.plan("2: by 34", allToBeFlipped(34), 0, 3, 252);
        Flapline least = wide(1, 2, 4);
        least.power(1, 3);
        Signs.plan("2: by 1", least, 0, 1, 2, 4);
        least.power(2, 3);
        Signs.plan("2: by 2", least, 0, 1, 6);
    }

    private static void exactlyThePower() {
        Flapline sign = wide(3, 7, 15);
        sign.power(9, 3);
        Signs.plan("2: nine dots by 9", sign, 0, 7);
        sign.power(8, 3);
        Signs.plan("2: nine dots by 8", sign, 0, 1, 6);
        sign.power(7, 3);
        Signs.plan("2: 2, and 7 by 7", sign, 0, 1, 6);
        sign.power(6, 3);
        Signs.plan("2: 3, and 6 by 6", sign, 0, 2, 5);
        sign.power(5, 3);
        Signs.plan("2: 5, and 4 by 5", sign, 0, 3, 4);
        sign.power(4, 3);
        Signs.plan("2: none together by 4", sign, 0, 1, 2, 4);
    }

    private static void aColumnAboveThePower() {
        Flapline sign = wide(31, 1, 0);
        sign.power(4, 3);
        Signs.plan("2: 5 by 4 is a step of its own", sign, 0, 1, 2);
        Expect.same("2: both steps", 2, sign.show(0));
        Signs.shows("2: whole", sign, 31, 1);
        Expect.same("2: all its dots at once", 5, sign.column(0, 1));
        Flapline all = wide(3, 7, 31);
        all.power(1, 3);
        Signs.plan("2: each is above 1", all, 0, 1, 2, 4);
    }

    private static void aColumnOfThePower() {
        Flapline sign = wide(31, 1, 1);
        sign.power(5, 3);
        Signs.plan("2: 5 by 5 leaves none over", sign, 0, 1, 6);
        sign.power(6, 3);
        Signs.plan("2: 5 by 6 leaves one over", sign, 0, 1, 6);
        sign.power(7, 3);
        Signs.plan("2: all by 7", sign, 0, 7);
    }

    private static void aDotCountsOnceHoweverItTurns() {
        Flapline sign = Signs.with(Signs.letters(3, 12), 1, 2);
        sign.power(3, 3);
        sign.show(0);
        Expect.same("2: two go dark, two go bright", 4, sign.ofLine(1, 7));
        Signs.plan("2: 4 by 3, in one column", sign, 1, 1);
        sign.show(1);
        Expect.same("2: flips", 6, sign.sign(7));
    }

    private static void onlyTheChangedColumns() {
        Flapline sign = Signs.with(Signs.letters(31, 15), 11, 111, 12);
        sign.power(40, 3);
        sign.show(0);
        Signs.plan("2: one column more", sign, 1, 16);
        Signs.plan("2: one dot less", sign, 2, 4);
        Expect.same("2: that dot", 1, sign.ofLine(2, 7));
        sign.show(1);
        Signs.plan("2: one column less", sign, 0, 16);
        Signs.plan("2: both", sign, 2, 20);
    }

    private static void theGoalIsAtTheBestOffset() {
        Flapline sign = Signs.with(Signs.letters(31), 1);
        sign.stick(0, 0, 0);
        sign.stick(1, 0, 0);
        Signs.plan("2: at offset 2", sign, 0, 4);
        sign.show(0);
        Signs.shows("2: there", sign, 0, 0, 31);
        sign.stick(2, 4, 0);
        Expect.same("2: moves on", 3, sign.ofLine(0, 2));
        Signs.plan("2: from there to offset 3", sign, 0, 12);
        sign.show(0);
        Signs.shows("2: moved", sign, 0, 0, 0, 31);
    }

    private static void theGoalKeepsStuckDots() {
        Flapline sign = wide(31, 31, 31);
        sign.width(4);
        Signs.stickColumn(sign, 1, 0);
        sign.stick(2, 0, 1);
        Expect.same("2: one less harm at offset 0", 5, sign.ofLine(0, 3));
        Signs.plan("2: a stuck column does not change", sign, 0, 5);
        Expect.same("2: nor does a dot that is bright", 9, sign.ofLine(0, 7));
        sign.show(0);
        Signs.shows("2: as stuck", sign, 31, 0, 31);
        Signs.plan("2: nothing is left", sign, 0);
        Expect.same("2: it is not said so", 0, sign.ofLine(0, 5));
        Expect.same("2: distance", 5, sign.ofLine(0, 4));
    }

    private static void withoutAnyNoStep() {
        Flapline sign = Signs.with(Signs.letters(31, 31), 1, 2);
        sign.show(0);
        Signs.plan("2: shown already", sign, 0);
        Signs.plan("2: the same form", sign, 1);
        Expect.same("2: no flip", 0, sign.ofLine(1, 7));
        Expect.same("2: no step", 0, sign.show(1));
        Expect.same("2: steps ever", 1, sign.sign(8));
        Expect.same("2: shown last all the same", 1, sign.sign(17));
        Expect.same("2: no flips more", 5, sign.sign(7));
    }

    private static void theLastPictureIsNotOnTheWay() {
        Flapline sign = new Flapline();
        sign.letter(2, 31, 31, 0);
        sign.letter(2, 31, 31, 0);
        Signs.list(sign, 1, 2);
        sign.power(5, 3);
        Signs.plan("2: the goal says another line, too", sign, 0, 1, 2);
        Expect.same("2: shown", 2, sign.show(0));
        Expect.same("2: says it", 1, sign.ofLine(0, 5));
        Expect.same("2: says the other one", 1, sign.ofLine(1, 5));
    }

    private static void thePictureAheadIsNotOnTheWay() {
        Flapline sign = Signs.with(Signs.letters(31), 1, 11, 111);
        sign.power(5, 3);
        sign.show(0);
        Signs.plan("2: from one line to another in one step", sign, 1, 4);
        sign.show(1);
        Signs.plan("2: and on", sign, 2, 16);
        Signs.plan("2: and back", sign, 0, 4);
    }

    private static void anotherListedLineIsWrong() {
        Flapline sign = Signs.with(Signs.letters(31, 31), 11);
        sign.power(5, 3);
        Signs.plan("2: its letter is not listed", sign, 0, 1, 4);
        sign.list(2);
        Signs.noPlan("2: each column alone says a line", sign, 0);
        sign.power(10, 3);
        Signs.plan("2: both at once", sign, 0, 5);
    }

    private static void anotherLineAtEachOffsetIsWrong() {
        Flapline sign = Signs.with(Signs.letters(31), 11, 1);
        sign.width(4);
        sign.stick(0, 0, 0);
        sign.stick(2, 0, 0);
        sign.power(5, 3);
        Expect.same("2: goes to the columns 1 and 3", 1, sign.ofLine(0, 2));
        Signs.noPlan("2: the last column alone says it, too", sign, 0);
        Signs.paint(sign, 1, 1);
        Signs.plan("2: with a dot ahead of it the last goes first", sign, 0, 8, 2);
        Signs.paint(sign, 1, 0);
        Signs.paint(sign, 3, 1);
        Signs.plan("2: with a dot there the other goes first", sign, 0, 2, 8);
    }

    private static void anExtraDotMakesItNoLine() {
        Flapline sign = Signs.with(Signs.letters(15), 11, 1);
        sign.power(5, 3);
        sign.stick(7, 4, 1);
        Expect.same("2: beside a stuck dot", 0, sign.ofLine(0, 2));
        Signs.plan("2: with it no picture says a line", sign, 0, 1, 4);
        sign.stick(7, 4, 0);
        Signs.noPlan("2: stuck at 0 it does not matter", sign, 0);
    }

    /** Two columns are bright, the first but for a dot that is stuck: so line 1 goes to the column 1. */
    private static Flapline toTheColumn1() {
        Flapline sign = Signs.with(Signs.letters(31, 31), 11, 1);
        sign.show(0);
        sign.stick(0, 0, 0);
        sign.power(5, 3);
        return sign;
    }

    private static void theOneToBeShownIsNotWrong() {
        Flapline sign = toTheColumn1();
        Expect.same("2: best offset", 1, sign.ofLine(1, 2));
        Expect.same("2: not said as it begins", 0, sign.ofLine(1, 5));
        Signs.plan("2: half way it is said at offset 2", sign, 1, 1, 2, 4);
        Expect.same("2: shown", 3, sign.show(1));
        Signs.shows("2: at offset 1", sign, 0, 31);
    }

    private static void theOneToBeShownAndAnotherIsWrong() {
        Flapline sign = toTheColumn1();
        sign.list(2);
        Signs.plan("2: half way both would be said", sign, 1, 2, 1, 4);
        Signs.plan("2: whichever is to be shown", sign, 2, 2, 1, 4);
    }

    private static void oneThatIsSaidAsItBeginsIsNotWrong() {
        Flapline sign = Signs.with(Signs.letters(31, 31), 1);
        sign.letter(3, 0, 31, 31);
        sign.list(3);
        sign.power(5, 3);
        Signs.noPlan("2: from the dark", sign, 1);
        sign.show(0);
        Signs.plan("2: at another offset half way", sign, 1, 1, 2, 4);
        sign.list(2);
        Signs.plan("2: two are said, and two may be", sign, 1, 1, 2, 4);
        Signs.paint(sign, 0, 15);
        Signs.plan("2: as none is said", sign, 1, 2, 4, 1);
        Expect.same("2: it is shown", 3, sign.show(1));
        Signs.shows("2: whole", sign, 0, 31, 31);
    }

    private static void oneThatWasSaidBeforeIsWrong() {
        Flapline sign = Signs.with(Signs.letters(31, 1), 1, 2, 11);
        sign.power(5, 3);
        sign.show(0);
        sign.show(1);
        Signs.paint(sign, 0, 0);
        Expect.same("2: shown last is line 1", 1, sign.sign(17));
        Signs.noPlan("2: what was said or shown last does not matter", sign, 2);
    }

    /** The column 0 alone says only line 0; each other column alone says both lines. */
    private static void oneThatIsSaidAndAnotherIsWrong() {
        Flapline sign = new Flapline();
        sign.width(4);
        sign.letter(1, 31, 0, 0);
        sign.letter(2, 0, 31, 0);
        sign.letter(3, 0, 31, 31);
        Signs.list(sign, 1, 3);
        sign.power(5, 3);
        sign.show(0);
        Signs.plan("2: line 0 half way", sign, 1, 1, 2, 4);
        sign.list(2);
        Expect.same("2: line 0 is said", 1, sign.ofLine(0, 5));
        Expect.same("2: line 2 is not", 0, sign.ofLine(2, 5));
        Signs.plan("2: both half way are wrong", sign, 1, 2, 4, 1);
    }

    /** Four columns; each two of them together say a line. */
    private static void fewestStepsWithoutAWrongPicture() {
        Flapline sign = Signs.with(Signs.letters(31), 1111);
        sign.letter(3, 31, 0, 0);
        sign.letter(3, 0, 0, 31);
        Signs.plan("2: two and two", sign, 0, 5, 80);
        sign.list(11);
        Signs.plan("2: neighbours are wrong", sign, 0, 17, 68);
        sign.list(21);
        Signs.plan("2: so are those with one between", sign, 0, 65, 20);
        sign.list(23);
        Signs.plan("2: so are the outer ones: a step more", sign, 0, 1, 20, 64);
        Expect.same("2: shown by three steps", 3, sign.ofLine(0, 6));
        sign.list(1);
        Signs.noPlan("2: so is each alone", sign, 0);
        sign.power(15, 3);
        Signs.plan("2: three, then one", sign, 0, 21, 64);
        Expect.same("2: shown", 2, sign.show(0));
    }

    /** 3, 2, 4 and 3 dots: two steps of 6 are enough, but only by the outer two and the inner two. */
    private static void fewestStepsByTheRightPairs() {
        Flapline sign = Signs.with(Signs.letters(7, 3, 15), 1231);
        sign.power(6, 3);
        Signs.plan("2: the other pairs would need three", sign, 0, 20, 65);
        sign.power(7, 3);
        Signs.plan("2: by 7 other pairs are enough", sign, 0, 5, 80);
        sign.power(5, 3);
        Signs.plan("2: by 5 only one pair is a step", sign, 0, 1, 16, 68);
    }

    private static void theSmallestFirstStep() {
        Flapline sign = wide(7, 7, 31);
        sign.power(6, 3);
        Signs.plan("2: 3 is smaller than 4, though it has more columns", sign, 0, 3, 4);
        Flapline first = wide(31, 7, 7);
        first.power(6, 3);
        Signs.plan("2: 1 is smaller than 6", first, 0, 1, 6);
        Flapline middle = wide(7, 31, 7);
        middle.power(6, 3);
        Signs.plan("2: 2 is smaller than 5", middle, 0, 2, 5);
    }

    private static void theSmallestSecondStep() {
        Flapline sign = new Flapline();
        sign.letter(3, 31, 31, 31);
        sign.letter(2, 31, 31, 0);
        sign.list(12);
        Signs.plan("2: one, two, two", sign, 0, 1, 6, 48);
        sign.list(1);
        Signs.plan("2: the smallest behind which no line is said", sign, 0, 1, 18, 36);
        sign.power(5, 3);
        sign.letter(2, 31, 0, 0);
        Signs.plan("2: one by one past line 1", sign, 0, 1, 2, 16, 4, 32);
    }

    private static void eightSteps() {
        Flapline sign = allToBeFlipped(1);
        Signs.plan("2: each column by itself", sign, 0, 1, 2, 4, 8, 16, 32, 64, 128);
        Expect.same("2: eight steps", 8, sign.show(0));
        Expect.same("2: steps ever", 8, sign.sign(8));
        Expect.same("2: all flips", 40, sign.sign(7));
    }

    private static void thereMayBeNone() {
        Flapline sign = Signs.with(Signs.letters(31), 1, 11);
        sign.power(5, 3);
        Signs.noPlan("2: no way but by line 0", sign, 1);
        sign.show(0);
        Signs.plan("2: from line 0 there is one", sign, 1, 4);
        sign.width(4);
        sign.list(111);
        Signs.noPlan("2: too long", sign, 2);
    }

    private static void flipsOfStepsAlone() {
        Flapline sign = Signs.with(Signs.letters(31), 1);
        sign.stick(1, 0, 1);
        sign.stick(1, 0, 0);
        sign.stick(1, 0, NONE);
        Expect.same("2: not one that is stuck", 0, sign.sign(7));
        Expect.same("2: nor its wear", 0, sign.column(1, 1));
        sign.show(0);
        sign.swap(0);
        Expect.same("2: not one that is swapped", 5, sign.sign(7));
        sign.show(0);
        Expect.same("2: shown again", 10, sign.sign(7));
        sign.width(8);
        Expect.same("2: not one that goes dark by a new width", 0, sign.sign(7));
        Expect.same("2: nor its wear by that", 0, sign.column(0, 1));
        sign.stick(0, 0, 1);
        sign.stick(0, 1, 0);
        sign.show(0);
        for (int height = 0; height < 5; height++) {
            Expect.same("2: stuck ones are not flipped", height < 2 ? 0 : 1, sign.dot(0, height, 1));
        }
    }

    private static void flipsToBothFaces() {
        Flapline sign = Signs.with(Signs.letters(7, 28), 1, 2);
        sign.show(0);
        sign.show(1);
        sign.show(0);
        int[] due = {3, 3, 1, 2, 2};
        for (int height = 0; height < 5; height++) {
            Expect.same("2: flips of the dot " + height, due[height], sign.dot(0, height, 1));
        }
        Expect.same("2: wear", 11, sign.column(0, 1));
        Expect.same("2: all", 11, sign.sign(7));
        Expect.same("2: steps", 3, sign.sign(8));
    }

    private static void wearSinceItWasSwapped() {
        Flapline sign = Signs.with(Signs.letters(7, 28), 11, 22);
        sign.show(0);
        sign.show(1);
        Expect.same("2: since the beginning", 7, sign.column(0, 1));
        Expect.same("2: that is told", 7, sign.swap(0));
        Expect.same("2: none", 0, sign.column(0, 1));
        Expect.same("2: the other one stays", 7, sign.column(2, 1));
        sign.show(0);
        Expect.same("2: only what came then", 3, sign.column(0, 1));
        Expect.same("2: the other one goes on", 11, sign.column(2, 1));
        int[] due = {3, 3, 2, 1, 1};
        for (int height = 0; height < 5; height++) {
            Expect.same("2: flips of the dot " + height, due[height], sign.dot(0, height, 1));
        }
        Expect.same("2: flips of all", 21, sign.sign(7));
    }

    private static void aSwappedColumnIsFreeAndDark() {
        Flapline sign = Signs.with(Signs.letters(31), 1);
        for (int column = 0; column < 8; column += 7) {
            Signs.stickColumn(sign, column, 1);
            sign.stick(column, 2, 0);
            Expect.same("2: five are stuck", 5, sign.column(column, 2));
            Expect.same("2: bright ones", 27, sign.column(column, 0));
            Expect.same("2: no wear", 0, sign.swap(column));
            Expect.same("2: dark", 0, sign.column(column, 0));
            Expect.same("2: free", 0, sign.column(column, 2));
            for (int height = 0; height < 5; height++) {
                Expect.same("2: each dot is free", NONE, sign.dot(column, height, 2));
            }
        }
        Expect.same("2: none is stuck", 0, sign.sign(6));
        sign.show(0);
        Signs.shows("2: all of it is flipped", sign, 31);
    }
}
