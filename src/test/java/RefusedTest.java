/**
 * Each call that is refused: the next value below the least one and above the greatest one, too many of a kind, and
 * of several exceptions the one that is named first. None of them changes anything.
 */
public final class RefusedTest {
    private static final int[] FAR = {Integer.MIN_VALUE, Integer.MAX_VALUE};

    public static void main(String[] args) {
        promise2();
        promise3();
        promise4();
        promise4WithSixLetters();
        promise5();
        promise5WithEightLines();
        promise6And7();
        promise8();
        promise9();
        promise10();
        promise10FullOrEnded();
        promise11();
        promise13();
        promise14();
        promise15And16();
        promise17To19();
        promise20And21();
        aRefusedOneMayBeTakenLater();
        Expect.finish();
    }

    /** Six columns, three letters, three lines of which the last is too long, and two stops. */
    private static Flapline busy() {
        Flapline sign = new Flapline();
        sign.width(6);
        sign.power(7, 2);
        sign.letter(1, 31, 0, 0);
        sign.letter(2, 5, 9, 0);
        sign.letter(3, 1, 0, 3);
        Signs.list(sign, 12, 3, 33);
        sign.show(0);
        sign.stick(5, 4, 1);
        sign.stick(0, 0, 0);
        sign.swap(2);
        Signs.send(sign, 1, 1);
        Signs.send(sign, 1, 1);
        Signs.send(sign, 3, 2);
        sign.frame(4, 0, 0);
        sign.stop(3, 1);
        sign.stop(2, 0);
        sign.wheel(4);
        return sign;
    }

    /** Six letters, eight lines, six stops. */
    private static Flapline fullOfAll() {
        Flapline sign = sixLetters();
        Signs.list(sign, 1, 2, 3, 45, 6, 12, 21, 66);
        for (int stop = 0; stop < 6; stop++) {
            sign.stop(1 + stop % 2, stop);
        }
        sign.show(3);
        sign.wheel(4);
        return sign;
    }

    private static Flapline sixLetters() {
        Flapline sign = new Flapline();
        sign.letter(1, 1, 0, 0);
        sign.letter(1, 3, 0, 0);
        sign.letter(2, 31, 7, 0);
        sign.letter(2, 0, 8, 0);
        sign.letter(3, 9, 0, 17);
        sign.letter(3, 4, 4, 4);
        return sign;
    }

    /** Two stops, and the bus is behind them. */
    private static Flapline ended() {
        Flapline sign = Signs.with(Signs.letters(1, 3), 1, 2);
        sign.stop(2, 0);
        sign.stop(3, 1);
        sign.wheel(6);
        return sign;
    }

    private static void argument(String what, Expect.Use call) {
        Expect.refused(what + ", new", Expect.ARGUMENT, Flapline::new, call);
        Expect.refused(what + ", busy", Expect.ARGUMENT, RefusedTest::busy, call);
        Expect.refused(what + ", full", Expect.ARGUMENT, RefusedTest::fullOfAll, call);
        Expect.refused(what + ", ended", Expect.ARGUMENT, RefusedTest::ended, call);
    }

    private static void index(String what, Expect.Use call) {
        Expect.refused(what + ", new", Expect.INDEX, Flapline::new, call);
        Expect.refused(what + ", busy", Expect.INDEX, RefusedTest::busy, call);
        Expect.refused(what + ", full", Expect.INDEX, RefusedTest::fullOfAll, call);
    }

    private static void onBusy(String what, Class<?> due, Expect.Use call) {
        Expect.refused(what, due, RefusedTest::busy, call);
    }

    private static void promise2() {
        argument("2: width 3", sign -> sign.width(3));
        argument("2: width 9", sign -> sign.width(9));
        argument("2: width 0", sign -> sign.width(0));
        for (int far : FAR) {
            argument("2: width " + far, sign -> sign.width(far));
        }
    }

    private static void promise3() {
        argument("3: power 0", sign -> sign.power(0, 3));
        argument("3: power 41", sign -> sign.power(41, 3));
        argument("3: power below 0", sign -> sign.power(-1, 3));
        argument("3: blur below 0", sign -> sign.power(5, -1));
        argument("3: blur 11", sign -> sign.power(5, 11));
        argument("3: both too small", sign -> sign.power(0, -1));
        argument("3: both too large", sign -> sign.power(41, 11));
        for (int far : FAR) {
            argument("3: power " + far, sign -> sign.power(far, 3));
            argument("3: blur " + far, sign -> sign.power(10, far));
        }
    }

    private static void promise4() {
        argument("4: no column", sign -> sign.letter(0, 0, 0, 0));
        argument("4: no column, but one is told", sign -> sign.letter(0, 1, 0, 0));
        argument("4: 4 columns", sign -> sign.letter(4, 1, 1, 1));
        argument("4: columns below 0", sign -> sign.letter(-1, 1, 1, 1));
        argument("4: first below 0", sign -> sign.letter(1, -1, 0, 0));
        argument("4: first 32", sign -> sign.letter(1, 32, 0, 0));
        argument("4: second below 0", sign -> sign.letter(2, 1, -1, 0));
        argument("4: second 32", sign -> sign.letter(2, 1, 32, 0));
        argument("4: third below 0", sign -> sign.letter(3, 1, 1, -1));
        argument("4: third 32", sign -> sign.letter(3, 1, 1, 32));
        argument("4: a second of one column", sign -> sign.letter(1, 1, 1, 0));
        argument("4: a third of one column", sign -> sign.letter(1, 1, 0, 1));
        argument("4: a third of two columns", sign -> sign.letter(2, 1, 1, 1));
        argument("4: a third 31 of two columns", sign -> sign.letter(2, 0, 0, 31));
        argument("4: one dark column", sign -> sign.letter(1, 0, 0, 0));
        argument("4: two dark columns", sign -> sign.letter(2, 0, 0, 0));
        argument("4: three dark columns", sign -> sign.letter(3, 0, 0, 0));
        for (int far : FAR) {
            argument("4: columns " + far, sign -> sign.letter(far, 1, 0, 0));
            argument("4: first " + far, sign -> sign.letter(1, far, 0, 0));
            argument("4: second " + far, sign -> sign.letter(2, 1, far, 0));
            argument("4: third " + far, sign -> sign.letter(3, 1, 1, far));
        }
    }

    private static void promise4WithSixLetters() {
        Expect.refused("4: a seventh", Expect.STATE, RefusedTest::sixLetters, sign -> sign.letter(1, 31, 0, 0));
        Expect.refused("4: a seventh of three", Expect.STATE, RefusedTest::sixLetters,
                sign -> sign.letter(3, 31, 31, 31));
        Expect.refused("4: the same as one", Expect.STATE, RefusedTest::fullOfAll, sign -> sign.letter(1, 1, 0, 0));
        Expect.refused("4: a wrong seventh", Expect.ARGUMENT, RefusedTest::sixLetters,
                sign -> sign.letter(4, 1, 1, 1));
        Expect.refused("4: a dark seventh", Expect.ARGUMENT, RefusedTest::sixLetters,
                sign -> sign.letter(3, 0, 0, 0));
        Expect.refused("4: a seventh of 32", Expect.ARGUMENT, RefusedTest::sixLetters,
                sign -> sign.letter(1, 32, 0, 0));
        Expect.refused("4: a seventh with one too many", Expect.ARGUMENT, RefusedTest::sixLetters,
                sign -> sign.letter(1, 1, 1, 0));
    }

    private static void promise5() {
        argument("5: 0", sign -> sign.list(0));
        argument("5: -1", sign -> sign.list(-1));
        argument("5: -12", sign -> sign.list(-12));
        argument("5: 5 digits", sign -> sign.list(11111));
        argument("5: the least of 5 digits", sign -> sign.list(10000));
        argument("5: the greatest of 4 digits", sign -> sign.list(9999));
        argument("5: 7 of 6", sign -> sign.list(7));
        argument("5: 9", sign -> sign.list(9));
        argument("5: 10", sign -> sign.list(10));
        argument("5: 101", sign -> sign.list(101));
        argument("5: 1100", sign -> sign.list(1100));
        argument("5: 1011", sign -> sign.list(1011));
        for (int far : FAR) {
            argument("5: " + far, sign -> sign.list(far));
        }
        Expect.refused("5: 1 of no letter", Expect.ARGUMENT, Flapline::new, sign -> sign.list(1));
        onBusy("5: 4 of 3", Expect.ARGUMENT, sign -> sign.list(4));
        onBusy("5: 4 ahead", Expect.ARGUMENT, sign -> sign.list(4111));
        onBusy("5: 4 second", Expect.ARGUMENT, sign -> sign.list(1411));
        onBusy("5: 4 third", Expect.ARGUMENT, sign -> sign.list(1141));
        onBusy("5: 4 last", Expect.ARGUMENT, sign -> sign.list(1114));
        onBusy("5: the first row", Expect.STATE, sign -> sign.list(12));
        onBusy("5: the second row", Expect.STATE, sign -> sign.list(3));
        onBusy("5: the last row", Expect.STATE, sign -> sign.list(33));
    }

    private static void promise5WithEightLines() {
        Expect.refused("5: a ninth", Expect.STATE, RefusedTest::fullOfAll, sign -> sign.list(4));
        Expect.refused("5: a ninth of 4", Expect.STATE, RefusedTest::fullOfAll, sign -> sign.list(6543));
        Expect.refused("5: one of eight", Expect.STATE, RefusedTest::fullOfAll, sign -> sign.list(66));
        Expect.refused("5: a wrong ninth", Expect.ARGUMENT, RefusedTest::fullOfAll, sign -> sign.list(17));
        Expect.refused("5: an empty ninth", Expect.ARGUMENT, RefusedTest::fullOfAll, sign -> sign.list(0));
    }

    private static void promise6And7() {
        index("6: column below 0", sign -> sign.stick(-1, 0, 1));
        index("6: column 8", sign -> sign.stick(8, 0, 1));
        onBusy("6: column 6 of 6", Expect.INDEX, sign -> sign.stick(6, 0, 1));
        index("6: height below 0", sign -> sign.stick(1, -1, 1));
        index("6: height 5", sign -> sign.stick(1, 5, 1));
        argument("6: face -2", sign -> sign.stick(1, 1, -2));
        argument("6: face 2", sign -> sign.stick(1, 1, 2));
        index("6: no column, no face", sign -> sign.stick(8, 0, 2));
        index("6: no height, no face", sign -> sign.stick(0, 5, -2));
        index("6: nothing is right", sign -> sign.stick(-1, -1, 2));
        index("7: column below 0", sign -> sign.swap(-1));
        index("7: column 8", sign -> sign.swap(8));
        onBusy("7: column 6 of 6", Expect.INDEX, sign -> sign.swap(6));
        for (int far : FAR) {
            index("6: column " + far, sign -> sign.stick(far, 0, 0));
            index("6: height " + far, sign -> sign.stick(0, far, 0));
            argument("6: face " + far, sign -> sign.stick(0, 0, far));
            index("7: column " + far, sign -> sign.swap(far));
        }
    }

    private static void promise8() {
        index("8: below 0", sign -> sign.show(-1));
        index("8: line 8", sign -> sign.show(8));
        onBusy("8: line 3 of 3", Expect.INDEX, sign -> sign.show(3));
        Expect.refused("8: line 0 of none", Expect.INDEX, Flapline::new, sign -> sign.show(0));
        for (int far : FAR) {
            index("8: line " + far, sign -> sign.show(far));
        }
    }

    private static void promise9() {
        argument("9: number below 0", sign -> sign.frame(-1, 0, 9));
        argument("9: number 8", sign -> sign.frame(8, 0, 3));
        argument("9: line below 0", sign -> sign.frame(0, -1, 7));
        argument("9: line 8", sign -> sign.frame(0, 8, 8));
        argument("9: check below 0", sign -> sign.frame(0, 0, -1));
        argument("9: check 11", sign -> sign.frame(0, 0, 11));
        argument("9: check as wrong by 11", sign -> sign.frame(0, 0, 12));
        argument("9: number 8 and check 11", sign -> sign.frame(8, 0, 11));
        for (int far : FAR) {
            argument("9: number " + far, sign -> sign.frame(far, 0, 1));
            argument("9: line " + far, sign -> sign.frame(0, far, 1));
            argument("9: check " + far, sign -> sign.frame(0, 0, far));
        }
        Expect.refused("9: line 0 of none", Expect.STATE, Flapline::new, sign -> sign.frame(0, 0, 1));
        Expect.refused("9: line 7 of none", Expect.STATE, Flapline::new, sign -> sign.frame(3, 7, 1));
        onBusy("9: line 3 of 3, one more", Expect.STATE, sign -> sign.frame(4, 3, 6));
        onBusy("9: line 3 of 3, four more", Expect.STATE, sign -> sign.frame(7, 3, 4));
        onBusy("9: line 7 of 3", Expect.STATE, sign -> sign.frame(5, 7, 7));
        onBusy("9: line 7 of 3, check 11", Expect.ARGUMENT, sign -> sign.frame(5, 7, 11));
    }

    private static void promise10() {
        argument("10: way 0", sign -> sign.stop(0, 0));
        argument("10: way 100", sign -> sign.stop(100, 0));
        argument("10: way below 0", sign -> sign.stop(-1, 0));
        argument("10: way 0 and no line", sign -> sign.stop(0, -1));
        argument("10: way 100 and no line", sign -> sign.stop(100, 8));
        index("10: line below 0", sign -> sign.stop(1, -1));
        index("10: line 8", sign -> sign.stop(99, 8));
        onBusy("10: line 3 of 3", Expect.INDEX, sign -> sign.stop(1, 3));
        Expect.refused("10: line 0 of none", Expect.INDEX, Flapline::new, sign -> sign.stop(1, 0));
        for (int far : FAR) {
            argument("10: way " + far, sign -> sign.stop(far, 0));
            index("10: line " + far, sign -> sign.stop(1, far));
        }
    }

    private static void promise10FullOrEnded() {
        Expect.refused("10: a seventh", Expect.STATE, RefusedTest::fullOfAll, sign -> sign.stop(9, 7));
        Expect.refused("10: a seventh without a line", Expect.INDEX, RefusedTest::fullOfAll, sign -> sign.stop(9, 8));
        Expect.refused("10: a seventh of way 0", Expect.ARGUMENT, RefusedTest::fullOfAll, sign -> sign.stop(0, 0));
        Expect.refused("10: behind the end", Expect.STATE, RefusedTest::ended, sign -> sign.stop(9, 1));
        Expect.refused("10: without a line there", Expect.INDEX, RefusedTest::ended, sign -> sign.stop(9, 2));
        Expect.refused("10: of way 100 there", Expect.ARGUMENT, RefusedTest::ended, sign -> sign.stop(100, 1));
        Expect.refused("10: of way 100 without a line there", Expect.ARGUMENT, RefusedTest::ended,
                sign -> sign.stop(100, 2));
    }

    private static void promise11() {
        argument("11: 0", sign -> sign.wheel(0));
        argument("11: 301", sign -> sign.wheel(301));
        argument("11: below 0", sign -> sign.wheel(-1));
        for (int far : FAR) {
            argument("11: " + far, sign -> sign.wheel(far));
        }
        Expect.refused("11: no stop", Expect.STATE, Flapline::new, sign -> sign.wheel(1));
        Expect.refused("11: no stop, but lines", Expect.STATE, () -> Signs.with(Signs.letters(1), 1),
                sign -> sign.wheel(300));
        Expect.refused("11: behind the end", Expect.STATE, RefusedTest::ended, sign -> sign.wheel(1));
        Expect.refused("11: far behind the end", Expect.STATE, RefusedTest::ended, sign -> sign.wheel(300));
    }

    private static void promise13() {
        index("13: column below 0", sign -> sign.dot(-1, 0, 0));
        index("13: column 8", sign -> sign.dot(8, 0, 0));
        onBusy("13: column 6 of 6", Expect.INDEX, sign -> sign.dot(6, 0, 1));
        index("13: height below 0", sign -> sign.dot(1, -1, 0));
        index("13: height 5", sign -> sign.dot(0, 5, 0));
        argument("13: what below 0", sign -> sign.dot(0, 0, -1));
        argument("13: what 3", sign -> sign.dot(0, 0, 3));
        index("13: no column, no what", sign -> sign.dot(8, 0, 3));
        index("13: no height, no what", sign -> sign.dot(0, 5, -1));
        for (int far : FAR) {
            index("13: column " + far, sign -> sign.dot(far, 0, 0));
            index("13: height " + far, sign -> sign.dot(0, far, 0));
            argument("13: what " + far, sign -> sign.dot(0, 0, far));
        }
    }

    private static void promise14() {
        index("14: column below 0", sign -> sign.column(-1, 0));
        index("14: column 8", sign -> sign.column(8, 0));
        onBusy("14: column 6 of 6", Expect.INDEX, sign -> sign.column(6, 1));
        argument("14: what below 0", sign -> sign.column(0, -1));
        argument("14: what 3", sign -> sign.column(0, 3));
        index("14: neither", sign -> sign.column(8, 3));
        for (int far : FAR) {
            index("14: column " + far, sign -> sign.column(far, 0));
            argument("14: what " + far, sign -> sign.column(0, far));
        }
    }

    private static void promise15And16() {
        index("15: line below 0", sign -> sign.ofLine(-1, 0));
        index("15: line 8", sign -> sign.ofLine(8, 0));
        onBusy("15: line 3 of 3", Expect.INDEX, sign -> sign.ofLine(3, 0));
        onBusy("15: what below 0", Expect.ARGUMENT, sign -> sign.ofLine(0, -1));
        onBusy("15: what 8", Expect.ARGUMENT, sign -> sign.ofLine(2, 8));
        index("15: neither", sign -> sign.ofLine(8, 8));
        index("15: neither, below", sign -> sign.ofLine(-1, -1));
        index("16: line below 0", sign -> sign.step(-1, 0));
        index("16: line 8", sign -> sign.step(8, 0));
        onBusy("16: line 3 of 3", Expect.INDEX, sign -> sign.step(3, 0));
        onBusy("16: nth below 0", Expect.ARGUMENT, sign -> sign.step(0, -1));
        onBusy("16: nth below 0 without a plan", Expect.ARGUMENT, sign -> sign.step(2, -1));
        index("16: neither", sign -> sign.step(8, -1));
        for (int far : FAR) {
            index("15: line " + far, sign -> sign.ofLine(far, 0));
            onBusy("15: what " + far, Expect.ARGUMENT, sign -> sign.ofLine(0, far));
            index("16: line " + far, sign -> sign.step(far, 0));
        }
        onBusy("16: nth far below 0", Expect.ARGUMENT, sign -> sign.step(0, Integer.MIN_VALUE));
    }

    private static void promise17To19() {
        index("17: below 0", sign -> sign.row(-1));
        index("17: 5", sign -> sign.row(5));
        argument("18: below 0", sign -> sign.sign(-1));
        argument("18: 18", sign -> sign.sign(18));
        argument("19: number below 0", sign -> sign.check(-1, 0));
        argument("19: number 8", sign -> sign.check(8, 0));
        argument("19: line below 0", sign -> sign.check(0, -1));
        argument("19: line 8", sign -> sign.check(0, 8));
        for (int far : FAR) {
            index("17: " + far, sign -> sign.row(far));
            argument("18: " + far, sign -> sign.sign(far));
            argument("19: number " + far, sign -> sign.check(far, 0));
            argument("19: line " + far, sign -> sign.check(0, far));
        }
    }

    private static void promise20And21() {
        index("20: one below 0", sign -> sign.apart(-1, 0));
        index("20: one 8", sign -> sign.apart(8, 0));
        index("20: other below 0", sign -> sign.apart(0, -1));
        index("20: other 8", sign -> sign.apart(0, 8));
        index("20: both", sign -> sign.apart(8, 8));
        onBusy("20: one 3 of 3", Expect.INDEX, sign -> sign.apart(3, 0));
        onBusy("20: other 3 of 3", Expect.INDEX, sign -> sign.apart(0, 3));
        onBusy("20: behind one that cannot be placed", Expect.INDEX, sign -> sign.apart(2, 3));
        index("21: below 0", sign -> sign.wouldRead(-1));
        index("21: line 8", sign -> sign.wouldRead(8));
        onBusy("21: line 3 of 3", Expect.INDEX, sign -> sign.wouldRead(3));
        Expect.refused("20: of none", Expect.INDEX, Flapline::new, sign -> sign.apart(0, 0));
        Expect.refused("21: of none", Expect.INDEX, Flapline::new, sign -> sign.wouldRead(0));
        for (int far : FAR) {
            index("20: one " + far, sign -> sign.apart(far, 0));
            index("20: other " + far, sign -> sign.apart(0, far));
            index("21: " + far, sign -> sign.wouldRead(far));
        }
    }

    private static void aRefusedOneMayBeTakenLater() {
        Flapline sign = Signs.with(Signs.letters(1), 1);
        Expect.thrown("5: no letter 2 yet", Expect.ARGUMENT, () -> sign.list(12));
        Expect.thrown("8: no line 1 yet", Expect.INDEX, () -> sign.show(1));
        Expect.thrown("11: no stop yet", Expect.STATE, () -> sign.wheel(5));
        Expect.same("4: letter 2", 2, sign.letter(1, 2, 0, 0));
        Expect.same("5: then it is listed", 1, sign.list(12));
        Expect.same("8: then it is shown", 1, sign.show(1));
        Expect.same("10: a stop", 0, sign.stop(5, 0));
        Expect.same("11: then it rolls from 0", 0, sign.wheel(4));
        sign.wheel(1);
        Expect.thrown("10: behind the end", Expect.STATE, () -> sign.stop(1, 0));
        sign.again();
        Expect.same("10: then it is told", 1, sign.stop(1, 0));
        sign.width(4);
        Expect.thrown("7: no column 4", Expect.INDEX, () -> sign.swap(4));
        sign.width(5);
        Expect.same("7: then it is swapped", 0, sign.swap(4));
    }
}
