/** Promises 8 and 16, and what ofLine() tells of a plan: show, step. */
public final class ShowTest {
    private static final int NONE = Expect.NONE;

    public static void main(String[] args) {
        fewestStepsForThePower();
        powerCountsDots();
        wideColumnIsAStepOfItsOwn();
        noWrongLineHalfWay();
        wrongAtEachOffset();
        linesThatWereSaidAreNotWrong();
        saidLineMayComeAgainHalfWay();
        sameFormsOfOtherLinesAreWrong();
        noWayAtAll();
        noWayByOneColumnEach();
        stuckDotsAreNotFlipped();
        withoutAStep();
        wrongCalls();
        Expect.finish();
    }

    private static void fewestStepsForThePower() {
        Flapline sign = new Flapline();
        sign.letter(3, 31, 31, 31);
        sign.list(11);
        Signs.plan("8: six full columns by 10", sign, 0, 3, 20, 96);
        sign.power(14, 3);
        Signs.plan("8: two each by 14", sign, 0, 3, 20, 96);
        sign.power(15, 3);
        Signs.plan("8: three each by 15", sign, 0, 7, 112);
        sign.power(29, 3);
        Signs.plan("8: the smallest set first", sign, 0, 1, 118);
        sign.power(30, 3);
        Signs.plan("8: all at once", sign, 0, 119);
        Expect.same("8: flips ahead", 30, sign.ofLine(0, 7));
        Expect.same("8: show", 1, sign.show(0));
        Expect.same("8: steps ever", 1, sign.sign(8));
        Expect.same("8: flips", 30, sign.sign(7));
        Expect.same("8: wear", 5, sign.column(6, 1));
        Expect.same("8: no wear", 0, sign.column(3, 1));
        Expect.same("8: row", "ooo.ooo.", sign.row(2));
        Expect.same("8: shown last", 0, sign.sign(17));
        Expect.same("8: read", 0, sign.sign(5));
    }

    private static void powerCountsDots() {
        Flapline sign = new Flapline();
        sign.letter(3, 1, 3, 7);
        sign.list(1);
        sign.power(3, 3);
        Signs.plan("8: 1 and 2, then 3", sign, 0, 3, 4);
        sign.power(5, 3);
        Signs.plan("8: the least first step that leaves one", sign, 0, 1, 6);
    }

    private static void wideColumnIsAStepOfItsOwn() {
        Flapline sign = new Flapline();
        sign.letter(3, 1, 31, 1);
        sign.list(1);
        sign.power(2, 3);
        Signs.plan("8: 5 by 2", sign, 0, 2, 5);
        Expect.same("8: show", 2, sign.show(0));
        Expect.same("8: as told", 31, sign.column(1, 0));
        sign.power(1, 3);
        sign.letter(1, 30, 0, 0);
        sign.list(2);
        Expect.same("8: to a line with three other columns", 3, sign.show(1));
        Expect.same("8: steps ever", 5, sign.sign(8));
        Expect.same("8: flips of all", 18, sign.sign(7));
    }

    private static void noWrongLineHalfWay() {
        Flapline sign = new Flapline();
        sign.letter(1, 31, 0, 0);
        sign.letter(3, 31, 0, 31);
        sign.list(2);
        sign.power(5, 3);
        Signs.plan("8: none other is listed", sign, 0, 1, 4);
        sign.list(1);
        Expect.same("8: each first step says line 1", NONE, sign.ofLine(0, 6));
        Expect.same("8: no flips", NONE, sign.ofLine(0, 7));
        Expect.same("8: no first step", NONE, sign.step(0, 0));
        Expect.same("8: cannot be shown", NONE, sign.show(0));
        Expect.same("8: nothing happens", 0, sign.sign(7));
        Expect.same("8: nor is it shown last", NONE, sign.sign(17));
        Expect.same("8: line 1 itself", 1, sign.show(1));
        Signs.plan("8: from line 1", sign, 0, 4);
        Expect.same("8: shown", 1, sign.show(0));
        sign.power(10, 3);
        Signs.plan("8: back", sign, 1, 4);
        Expect.yes("8: sound", sign.isSound());
    }

    private static void wrongAtEachOffset() {
        Flapline sign = new Flapline();
        sign.width(5);
        sign.letter(1, 31, 0, 0);
        sign.list(111);
        sign.power(5, 3);
        Signs.plan("8: no other line", sign, 0, 1, 4, 16);
        sign.list(1);
        Expect.same("8: each first column is line 1, the last one, too", NONE, sign.ofLine(0, 6));
        sign.power(10, 3);
        Signs.plan("8: two at first, then one", sign, 0, 5, 16);
    }

    private static void linesThatWereSaidAreNotWrong() {
        Flapline sign = new Flapline();
        sign.letter(1, 31, 0, 0);
        sign.list(1);
        sign.list(11);
        sign.list(111);
        sign.power(5, 3);
        sign.show(0);
        Signs.plan("8: line 1 would be said half way", sign, 2, 16, 4);
        sign.stick(2, 0, 1);
        sign.stick(2, 0, NONE);
        Expect.same("8: it says none now", 0, sign.ofLine(0, 5));
        Signs.plan("8: still", sign, 2, 16, 4);
        sign.width(8);
        sign.show(0);
        Signs.plan("8: from line 0 to 1", sign, 1, 4);
        sign.show(1);
        Expect.same("8: says line 1", 1, sign.ofLine(1, 5));
        Signs.plan("8: back by line 0 is one step", sign, 0, 4);
    }

    private static void saidLineMayComeAgainHalfWay() {
        Flapline sign = new Flapline();
        sign.letter(1, 31, 0, 0);
        sign.letter(3, 0, 31, 31);
        sign.list(1);
        sign.list(2);
        sign.power(5, 3);
        Expect.same("8: the first alone would be said", NONE, sign.ofLine(1, 6));
        sign.show(0);
        Signs.plan("8: as it is said already, it may", sign, 1, 1, 2, 4);
    }

    private static void sameFormsOfOtherLinesAreWrong() {
        Flapline sign = new Flapline();
        sign.letter(1, 31, 0, 0);
        sign.letter(1, 31, 0, 0);
        sign.letter(3, 31, 0, 31);
        sign.list(3);
        sign.list(1);
        sign.power(5, 3);
        Expect.same("8: line 1 says what is not wrong only for itself", NONE, sign.ofLine(0, 6));
        sign.list(2);
        Expect.same("8: both are said", NONE, sign.show(0));
        sign.show(1);
        Expect.same("8: the likest is not one", NONE, sign.sign(5));
        Expect.same("8: says the other one, too", 1, sign.ofLine(2, 5));
        Signs.plan("8: from both", sign, 0, 4);
        sign.stick(0, 0, 0);
        Expect.same("8: harm moves line 2", 1, sign.ofLine(2, 2));
    }

    private static void noWayAtAll() {
        Flapline sign = new Flapline();
        sign.letter(3, 31, 31, 31);
        sign.list(111);
        Expect.same("8: too long", NONE, sign.show(0));
        Expect.same("8: no offset", NONE, sign.ofLine(0, 2));
        Expect.same("8: no harm", NONE, sign.ofLine(0, 3));
        Expect.same("8: no distance", NONE, sign.ofLine(0, 4));
        Expect.same("8: not said", 0, sign.ofLine(0, 5));
        Expect.same("8: no steps", NONE, sign.ofLine(0, 6));
        Expect.same("8: no flips", NONE, sign.ofLine(0, 7));
        Expect.same("8: no step", NONE, sign.step(0, 0));
        Expect.same("8: nothing shown", NONE, sign.sign(17));
    }

    /** The line shown has no way in the fewest steps that the power allows, but one in more. */
    private static void noWayByOneColumnEach() {
        Flapline sign = new Flapline();
        sign.letter(1, 1, 0, 0);
        sign.letter(1, 2, 0, 0);
        sign.letter(3, 1, 0, 1);
        sign.list(111);
        sign.list(3);
        sign.list(1);
        sign.power(2, 0);
        Signs.plan("8: only the outer two together are no line", sign, 0, 17, 4);
        sign.power(1, 0);
        Expect.same("8: by 1 each first step is a line", NONE, sign.ofLine(0, 6));
        sign.power(3, 0);
        Signs.plan("8: all at once", sign, 0, 21);
    }

    private static void stuckDotsAreNotFlipped() {
        Flapline sign = new Flapline();
        sign.width(4);
        sign.letter(3, 31, 31, 31);
        sign.list(1);
        sign.power(15, 3);
        sign.stick(1, 0, 0);
        sign.stick(3, 4, 1);
        Expect.same("8: least harm", 1, sign.ofLine(0, 2));
        Expect.same("8: one dot", 1, sign.ofLine(0, 3));
        Expect.same("8: flips ahead", 13, sign.ofLine(0, 7));
        Expect.same("8: shown with its harm", 1, sign.show(0));
        Expect.same("8: the stuck one stays", "..oo", sign.row(0));
        Expect.same("8: not flipped", 0, sign.dot(1, 0, 1));
        Expect.same("8: nor that which was bright", 0, sign.dot(3, 4, 1));
        Expect.same("8: wear", 4, sign.column(1, 1));
        Expect.same("8: flips", 13, sign.sign(7));
        Expect.same("8: it is not said", 0, sign.ofLine(0, 5));
        Expect.same("8: but read", 0, sign.sign(5));
        Expect.same("8: distance", 1, sign.ofLine(0, 4));
        Expect.yes("8: sound", sign.isSound());
    }

    private static void withoutAStep() {
        Flapline sign = new Flapline();
        sign.letter(1, 31, 0, 0);
        sign.letter(1, 31, 0, 0);
        sign.list(1);
        sign.list(2);
        sign.show(0);
        Signs.plan("8: nothing changes", sign, 1);
        Expect.same("8: no flips", 0, sign.ofLine(1, 7));
        Expect.same("8: no step", 0, sign.show(1));
        Expect.same("8: but shown last", 1, sign.sign(17));
        Expect.same("8: steps ever", 1, sign.sign(8));
    }

    private static void wrongCalls() {
        Flapline sign = new Flapline();
        Expect.index("8: no line yet", sign, () -> sign.show(0));
        Expect.index("16: no line yet", sign, () -> sign.step(0, -1));
        sign.letter(1, 31, 0, 0);
        sign.list(1);
        Expect.index("8: below 0", sign, () -> sign.show(-1));
        Expect.index("8: no line 1", sign, () -> sign.show(1));
        Expect.index("16: below 0", sign, () -> sign.step(-1, 0));
        Expect.index("16: no line 1", sign, () -> sign.step(1, 0));
        Expect.argument("16: nth below 0", sign, () -> sign.step(0, -1));
        Expect.same("16: not so many", NONE, sign.step(0, 1));
        Expect.same("16: far too many", NONE, sign.step(0, Integer.MAX_VALUE));
        Expect.same("16: the first", 1, sign.step(0, 0));
    }
}
