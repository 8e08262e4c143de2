/** Description 4, sentence by sentence: frames on the wire, the route and the wheel. */
public final class WireBusTest {
    private static final int NONE = Expect.NONE;

    public static void main(String[] args) {
        checksOfAllFrames();
        eachOtherCheckIsBroken();
        aBrokenOneIsOnlyCounted();
        sevenAtFirst();
        oneToFourMoreThanTheLast();
        behind7ItGoesOnWith0();
        anOldOneIsOnlyCounted();
        aTakenOneIsShown();
        aTakenOneWithoutAPlan();
        aTakenOneWithoutAStep();
        aNewOneWithoutALine();
        allEightLines();
        stopsAreNumberedFrom0To5();
        waysFrom1To99();
        nextIs0AtFirst();
        turnsAreCounted();
        comesToTheWayOrPassesIt();
        whatIsAboveStays();
        asOftenAsNeeded();
        behindTheLastStop();
        theLineOfTheNextOfThen();
        onlyIfNextIsAnother();
        theLineNeedsAPlan();
        theLineOfStop0IsNeverShown();
        aStopToldOnTheWay();
        againFromAnywhere();
        shownLast();
        stepsEver();
        Expect.finish();
    }

    /** Lines 0 and 1 of one and two dots, and line 2 that is too long. */
    private static Flapline threeLines() {
        Flapline sign = Signs.with(Signs.letters(1, 3), 1, 2);
        sign.letter(3, 31, 31, 31);
        sign.list(333);
        return sign;
    }

    private static void route(String what, Flapline sign, int next, int wheel, int shown) {
        Expect.same(what + ": next", next, sign.sign(15));
        Expect.same(what + ": wheel", wheel, sign.sign(16));
        Expect.same(what + ": shown", shown, sign.sign(17));
    }

    private static void checksOfAllFrames() {
        int[][] due = {
            {1, 6, 0, 5, 10, 4, 9, 3},
            {4, 9, 3, 8, 2, 7, 1, 6},
            {7, 1, 6, 0, 5, 10, 4, 9},
            {10, 4, 9, 3, 8, 2, 7, 1},
            {2, 7, 1, 6, 0, 5, 10, 4},
            {5, 10, 4, 9, 3, 8, 2, 7},
            {8, 2, 7, 1, 6, 0, 5, 10},
            {0, 5, 10, 4, 9, 3, 8, 2},
        };
        Flapline sign = new Flapline();
        for (int number = 0; number < 8; number++) {
            for (int line = 0; line < 8; line++) {
                Expect.same("4: " + number + ", " + line, due[number][line], sign.check(number, line));
            }
        }
    }

    private static void eachOtherCheckIsBroken() {
        for (int check = 0; check <= 10; check++) {
            Flapline sign = threeLines();
            Expect.same("4: check " + check + " of 0, 0", check == 1 ? 2 : 0, sign.frame(0, 0, check));
            Signs.counts("4: check " + check, sign, check == 1 ? 0 : 1, 0, check == 1 ? 1 : 0, 0, check == 1 ? 0 : 7);
        }
        for (int check = 0; check <= 10; check++) {
            Flapline sign = threeLines();
            Expect.same("4: check " + check + " of 2, 1", check == 1 ? 2 : 0, sign.frame(2, 1, check));
            Expect.same("4: check " + check + " of 7, 0", check == 0 ? 1 : 0, threeLines().frame(7, 0, check));
            Expect.same("4: check " + check + " of 3, 0", check == 10 ? 2 : 0, threeLines().frame(3, 0, check));
        }
    }

    private static void aBrokenOneIsOnlyCounted() {
        Flapline sign = threeLines();
        Signs.send(sign, 0, 0);
        Expect.same("4: broken", 0, sign.frame(1, 1, 10));
        Signs.counts("4: one", sign, 1, 0, 1, 0, 0);
        Expect.same("4: not shown", 0, sign.sign(17));
        Expect.same("4: the same again", 0, sign.frame(1, 1, 10));
        Expect.same("4: an old number", 0, sign.frame(0, 1, 0));
        Expect.same("4: no such line", 0, sign.frame(1, 7, 0));
        Signs.counts("4: four", sign, 4, 0, 1, 0, 0);
        Expect.same("4: it comes whole", 2, sign.frame(1, 1, 9));
    }

    private static void sevenAtFirst() {
        int[] due = {2, 2, 2, 2, 1, 1, 1, 1};
        for (int number = 0; number < 8; number++) {
            Flapline sign = threeLines();
            Expect.same("4: first number " + number, due[number], Signs.send(sign, number, 0));
            Expect.same("4: the last then", due[number] == 2 ? number : 7, sign.sign(13));
        }
    }

    /** A sign that took this number last. */
    private static Flapline behind(int last) {
        Flapline sign = threeLines();
        if (last >= 4) {
            Signs.send(sign, 3, 0);
        }
        Expect.same("4: taken", 2, Signs.send(sign, last, 0));
        return sign;
    }

    private static void oneToFourMoreThanTheLast() {
        for (int last = 0; last < 8; last++) {
            for (int more = 0; more < 8; more++) {
                Flapline sign = behind(last);
                int number = (last + more) % 8;
                boolean isNew = more >= 1 && more <= 4;
                String what = "4: " + number + " behind " + last;
                Expect.same(what, isNew ? 2 : 1, Signs.send(sign, number, 1));
                Expect.same(what + ": last", isNew ? number : last, sign.sign(13));
                Expect.same(what + ": shown", isNew ? 1 : 0, sign.sign(17));
                Expect.same(what + ": old", isNew ? 0 : 1, sign.sign(10));
            }
        }
    }

    private static void behind7ItGoesOnWith0() {
        int[] due = {2, 2, 2, 2, 1, 1, 1, 1};
        for (int number = 0; number < 8; number++) {
            Expect.same("4: " + number + " behind 7", due[number], Signs.send(behind(7), number, 1));
        }
        Flapline sign = threeLines();
        for (int turn = 0; turn < 20; turn++) {
            Expect.same("4: one by one", 2, Signs.send(sign, turn % 8, turn % 2));
        }
        Signs.counts("4: twenty", sign, 0, 0, 20, 0, 3);
        for (int turn = 0; turn < 6; turn++) {
            Expect.same("4: four by four", 2, Signs.send(sign, (7 + 4 * turn) % 8, 0));
        }
        Signs.counts("4: six more", sign, 0, 0, 26, 0, 3);
    }

    private static void anOldOneIsOnlyCounted() {
        Flapline sign = threeLines();
        Signs.send(sign, 2, 0);
        Expect.same("4: doubled", 1, Signs.send(sign, 2, 0));
        Expect.same("4: late", 1, Signs.send(sign, 1, 1));
        Expect.same("4: far ahead is as late", 1, Signs.send(sign, 7, 1));
        Expect.same("4: no such line", 1, Signs.send(sign, 0, 7));
        Signs.counts("4: four", sign, 0, 4, 1, 0, 2);
        Expect.same("4: not shown", 0, sign.sign(17));
        Expect.same("4: the next", 2, Signs.send(sign, 6, 1));
        Signs.counts("4: five", sign, 0, 4, 2, 0, 6);
    }

    private static void aTakenOneIsShown() {
        Flapline sign = threeLines();
        Expect.same("4: taken", 2, sign.frame(0, 1, 6));
        Signs.shows("4: shown", sign, 3);
        Expect.same("4: steps ever", 1, sign.sign(8));
        Expect.same("4: flips", 2, sign.sign(7));
        Expect.same("4: wear", 2, sign.column(0, 1));
        Expect.same("4: last line", 1, sign.sign(17));
        Signs.counts("4: taken", sign, 0, 0, 1, 0, 0);
    }

    private static void aTakenOneWithoutAPlan() {
        Flapline sign = threeLines();
        Signs.send(sign, 0, 1);
        Expect.same("4: unshown", 3, Signs.send(sign, 4, 2));
        Signs.counts("4: taken all the same", sign, 0, 0, 2, 1, 4);
        route("4: nothing else", sign, 0, 0, 1);
        Signs.shows("4: as before", sign, 3);
        Expect.same("4: doubled it is old", 1, Signs.send(sign, 4, 2));
        Expect.same("4: the next of such", 3, Signs.send(sign, 5, 2));
        Signs.counts("4: two", sign, 0, 1, 3, 2, 5);

        Flapline wrong = Signs.with(Signs.letters(31), 1, 11);
        wrong.power(5, 3);
        Expect.same("4: each way is wrong", 3, Signs.send(wrong, 0, 1));
        Signs.counts("4: wrong", wrong, 0, 0, 1, 1, 0);
        Signs.shows("4: dark", wrong);
    }

    private static void aTakenOneWithoutAStep() {
        Flapline sign = threeLines();
        sign.show(0);
        Expect.same("4: shown already", 2, Signs.send(sign, 0, 0));
        Signs.counts("4: it has a plan of no step", sign, 0, 0, 1, 0, 0);
        Expect.same("4: no step", 1, sign.sign(8));
    }

    private static void aNewOneWithoutALine() {
        Expect.refused("4: line 3 of 3", Expect.STATE, WireBusTest::threeLines, sign -> sign.frame(0, 3, 5));
        Expect.refused("4: line 7 of 3", Expect.STATE, WireBusTest::threeLines, sign -> sign.frame(3, 7, 1));
        Expect.refused("4: no line at all", Expect.STATE, Flapline::new, sign -> sign.frame(0, 0, 1));
        Flapline sign = threeLines();
        Expect.thrown("4: not taken", Expect.STATE, () -> sign.frame(0, 3, 5));
        Signs.counts("4: not counted", sign, 0, 0, 0, 0, 7);
        sign.list(11);
        Expect.same("4: so it is new as it is listed", 2, sign.frame(0, 3, 5));
        Flapline empty = new Flapline();
        Expect.same("4: an old one without a line", 1, empty.frame(7, 0, 0));
        Expect.same("4: a broken one without a line", 0, empty.frame(0, 0, 0));
    }

    private static void allEightLines() {
        Flapline sign = Signs.with(Signs.letters(1, 2, 3, 4, 5, 6), 1, 2, 3, 4, 5, 6, 11, 22);
        for (int line = 0; line < 8; line++) {
            Expect.same("4: line " + line, 2, Signs.send(sign, line, line));
            Expect.same("4: shown " + line, line, sign.sign(17));
        }
    }

    private static void stopsAreNumberedFrom0To5() {
        Flapline sign = threeLines();
        for (int stop = 0; stop < 6; stop++) {
            Expect.same("4: stop", stop, sign.stop(stop + 1, stop % 3));
            Expect.same("4: stops", stop + 1, sign.sign(14));
        }
        Expect.state("4: at most 6", sign, () -> sign.stop(1, 0));
        for (int next = 0; next < 6; next++) {
            Expect.same("4: as far as there is a way", next, sign.sign(15));
            Expect.same("4: its way is as told", next < 5 ? next + 1 : NONE, sign.wheel(next + 1));
        }
    }

    private static void waysFrom1To99() {
        Flapline sign = threeLines();
        sign.stop(1, 0);
        sign.stop(99, 1);
        sign.stop(99, 0);
        Expect.same("4: a way of 1", 1, sign.wheel(1));
        Expect.same("4: 98 of 99", 1, sign.wheel(98));
        route("4: one is left", sign, 1, 98, 1);
        Expect.same("4: 99 of 99", 2, sign.wheel(1));
        route("4: come to it", sign, 2, 0, 0);
        Expect.same("4: past 99", NONE, sign.wheel(100));
    }

    private static void nextIs0AtFirst() {
        Flapline sign = new Flapline();
        route("4: without a stop", sign, 0, 0, NONE);
        sign.letter(1, 1, 0, 0);
        sign.list(1);
        sign.stop(3, 0);
        route("4: with one", sign, 0, 0, NONE);
        sign.stop(3, 0);
        route("4: with two", sign, 0, 0, NONE);
    }

    private static void turnsAreCounted() {
        Flapline sign = threeLines();
        sign.stop(50, 0);
        sign.stop(9, 1);
        int sum = 0;
        for (int turns = 1; turns <= 9; turns++) {
            sum += turns;
            Expect.same("4: on the way", 0, sign.wheel(turns));
            route("4: " + sum, sign, 0, sum, NONE);
        }
        Expect.same("4: 49", 0, sign.wheel(4));
        Expect.same("4: 50", 1, sign.wheel(1));
    }

    private static void comesToTheWayOrPassesIt() {
        for (int turns = 9; turns <= 11; turns++) {
            Flapline sign = threeLines();
            sign.stop(10, 0);
            sign.stop(10, 1);
            sign.stop(10, 0);
            Expect.same("4: " + turns + " of 10", turns < 10 ? 0 : 1, sign.wheel(turns));
            route("4: " + turns, sign, turns < 10 ? 0 : 1, turns % 10, turns < 10 ? NONE : 1);
            Expect.same("4: ten more", turns < 10 ? 1 : 2, sign.wheel(10));
            route("4: " + turns + " and ten", sign, turns < 10 ? 1 : 2, turns % 10, turns < 10 ? 1 : 0);
        }
    }

    private static void whatIsAboveStays() {
        Flapline sign = threeLines();
        sign.stop(5, 0);
        sign.stop(5, 1);
        sign.stop(99, 0);
        Expect.same("4: 9 of 5 and 5", 1, sign.wheel(9));
        route("4: 4 stay", sign, 1, 4, 1);
        Expect.same("4: 1 is enough", 2, sign.wheel(1));
        route("4: none stays", sign, 2, 0, 0);
    }

    private static void asOftenAsNeeded() {
        int[] dueNext = {0, 1, 1, 2, 2, 2, 3, 4, 4, 4, 4, 5, 5, NONE, NONE};
        int[] dueWheel = {0, 0, 1, 0, 1, 2, 0, 0, 1, 2, 3, 0, 1, 0, 0};
        for (int turns = 1; turns <= 14; turns++) {
            Flapline sign = threeLines();
            for (int way : new int[] {1, 2, 3, 1, 4, 2}) {
                sign.stop(way, 1);
            }
            Expect.same("4: next behind " + turns, dueNext[turns], sign.wheel(turns));
            boolean shows = dueNext[turns] > 0;
            route("4: " + turns, sign, dueNext[turns], dueWheel[turns], shows ? 1 : NONE);
        }
    }

    private static void behindTheLastStop() {
        for (int turns = 29; turns <= 31; turns++) {
            Flapline sign = threeLines();
            sign.stop(10, 0);
            sign.stop(20, 1);
            Expect.same("4: " + turns + " of 30", turns < 30 ? 1 : NONE, sign.wheel(turns));
            route("4: " + turns, sign, turns < 30 ? 1 : NONE, turns < 30 ? 19 : 0, turns < 30 ? 1 : NONE);
        }
        Flapline one = threeLines();
        one.stop(99, 1);
        Expect.same("4: far behind the only one", NONE, one.wheel(300));
        route("4: the end", one, NONE, 0, NONE);
        Expect.state("4: it rolls no more", one, () -> one.wheel(1));
        Expect.state("4: no stop is told there", one, () -> one.stop(1, 0));
        Flapline shown = threeLines();
        shown.stop(1, 0);
        shown.stop(1, 0);
        shown.wheel(1);
        shown.show(1);
        Expect.same("4: the end", NONE, shown.wheel(1));
        route("4: no line is shown there", shown, NONE, 0, 1);
    }

    private static void theLineOfTheNextOfThen() {
        Flapline sign = Signs.with(Signs.letters(1, 2, 4, 8), 1, 2, 3, 4);
        for (int stop = 0; stop < 4; stop++) {
            sign.stop(2, stop);
        }
        Expect.same("4: past two stops", 2, sign.wheel(5));
        Signs.shows("4: the line on the way of now", sign, 4);
        Expect.same("4: once", 1, sign.sign(8));
        Expect.same("4: no other one", 1, sign.sign(7));
        Expect.same("4: the next", 3, sign.wheel(1));
        Signs.shows("4: its line", sign, 8);
    }

    private static void onlyIfNextIsAnother() {
        Flapline sign = threeLines();
        sign.stop(1, 0);
        sign.stop(9, 1);
        sign.stop(9, 0);
        sign.wheel(1);
        route("4: on the way", sign, 1, 0, 1);
        sign.show(0);
        Expect.same("4: rolls on", 1, sign.wheel(8));
        route("4: the sign is left as it is", sign, 1, 8, 0);
        sign.width(8);
        sign.again();
        Expect.same("4: anew", 1, sign.wheel(2));
        route("4: shown anew", sign, 1, 1, 1);
    }

    private static void theLineNeedsAPlan() {
        Flapline sign = threeLines();
        sign.stop(1, 0);
        sign.stop(1, 1);
        sign.stop(1, 2);
        sign.stop(1, 0);
        sign.wheel(1);
        Expect.same("4: to a stop whose line is too long", 2, sign.wheel(1));
        route("4: the line ahead stays", sign, 2, 0, 1);
        Signs.shows("4: its dots, too", sign, 3);
        Signs.counts("4: no frame", sign, 0, 0, 0, 0, 7);
        Expect.same("4: rolls on", 3, sign.wheel(1));
        route("4: the next line", sign, 3, 0, 0);
    }

    private static void theLineOfStop0IsNeverShown() {
        Flapline sign = threeLines();
        sign.stop(2, 0);
        sign.stop(2, 1);
        Expect.same("4: on the way to 0", 0, sign.wheel(1));
        route("4: nothing is shown", sign, 0, 1, NONE);
        sign.wheel(2);
        route("4: to stop 1", sign, 1, 1, 1);
        Expect.same("4: again", 2, sign.again());
        route("4: not by again", sign, 0, 0, 1);
        Expect.same("4: rolls to 0", 0, sign.wheel(1));
        route("4: nor by the wheel, though next was 1 ahead of again", sign, 0, 1, 1);
        Signs.shows("4: dots of line 1", sign, 3);
        sign.wheel(300);
        sign.again();
        sign.wheel(1);
        route("4: nor behind the end", sign, 0, 1, 1);
    }

    private static void aStopToldOnTheWay() {
        Flapline sign = threeLines();
        sign.stop(5, 0);
        sign.wheel(4);
        Expect.same("4: behind the only one", 1, sign.stop(5, 1));
        Expect.same("4: it goes on to that", 1, sign.wheel(1));
        route("4: its line", sign, 1, 0, 1);
        Expect.same("4: one more", 2, sign.stop(1, 0));
        Expect.same("4: goes on", 2, sign.wheel(5));
        Expect.same("4: the end", NONE, sign.wheel(1));
        sign.again();
        Expect.same("4: a fourth", 3, sign.stop(7, 1));
        Expect.same("4: behind three", 3, sign.wheel(11));
        route("4: its line", sign, 3, 0, 1);
    }

    private static void againFromAnywhere() {
        Flapline sign = threeLines();
        Expect.same("4: without a stop", 0, sign.again());
        route("4: next is 0 all the same", sign, 0, 0, NONE);
        sign.stop(5, 0);
        Expect.same("4: one stop", 1, sign.again());
        sign.wheel(3);
        Expect.same("4: half way", 1, sign.again());
        route("4: the wheel is 0", sign, 0, 0, NONE);
        Expect.same("4: a whole way again", 0, sign.wheel(4));
        sign.wheel(1);
        Expect.same("4: behind the end", 1, sign.again());
        route("4: next is 0", sign, 0, 0, NONE);
        for (int stop = 1; stop < 6; stop++) {
            sign.stop(1, 1);
        }
        sign.wheel(7);
        route("4: on the way to stop 3", sign, 3, 0, 1);
        Expect.same("4: six stops", 6, sign.again());
        Expect.same("4: they stay", 6, sign.sign(14));
        route("4: the line stays", sign, 0, 0, 1);
        Expect.same("4: their ways, too", 5, sign.wheel(9));
    }

    private static void shownLast() {
        Flapline sign = threeLines();
        Expect.same("4: none at first", NONE, sign.sign(17));
        sign.show(1);
        Expect.same("4: by show", 1, sign.sign(17));
        sign.show(2);
        Expect.same("4: not without a plan", 1, sign.sign(17));
        Signs.send(sign, 0, 0);
        Expect.same("4: by a frame", 0, sign.sign(17));
        sign.stop(1, 0);
        sign.stop(1, 1);
        sign.wheel(1);
        Expect.same("4: by the wheel", 1, sign.sign(17));
        sign.swap(0);
        sign.stick(3, 3, 1);
        Expect.same("4: whatever the dots show", 1, sign.sign(17));
        sign.width(8);
        Expect.same("4: none behind width", NONE, sign.sign(17));
    }

    private static void stepsEver() {
        Flapline sign = Signs.with(Signs.letters(31, 15), 11, 22);
        sign.power(5, 3);
        Expect.same("4: two steps", 2, sign.show(0));
        Expect.same("4: two ever", 2, sign.sign(8));
        Signs.send(sign, 0, 1);
        Expect.same("4: by a frame", 3, sign.sign(8));
        sign.stop(1, 0);
        sign.stop(1, 0);
        sign.wheel(1);
        Expect.same("4: by the wheel", 4, sign.sign(8));
        sign.width(8);
        Expect.same("4: ever", 4, sign.sign(8));
        sign.show(1);
        Expect.same("4: and on", 6, sign.sign(8));
    }
}
