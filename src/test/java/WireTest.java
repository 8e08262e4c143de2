/** Promises 9 to 12 and 19: frame, stop, wheel, again, check. */
public final class WireTest {
    private static final int NONE = Expect.NONE;

    public static void main(String[] args) {
        promise9();
        promise9NewAndOld();
        promise9Wrong();
        promise10();
        promise11();
        promise11SixStops();
        promise11ShowsOnce();
        promise12();
        promise19();
        Expect.finish();
    }

    private static Flapline threeLines() {
        Flapline sign = new Flapline();
        sign.letter(1, 1, 0, 0);
        sign.letter(1, 3, 0, 0);
        sign.letter(3, 31, 31, 31);
        sign.list(1);
        sign.list(2);
        sign.list(3333);
        return sign;
    }

    private static void promise9() {
        Flapline sign = threeLines();
        Expect.same("9: taken", 2, Signs.send(sign, 0, 1));
        Expect.same("9: shown", 1, sign.sign(17));
        Expect.same("9: its dots", 3, sign.column(0, 0));
        Signs.counts("9: one", sign, 0, 0, 1, 0, 0);
        Expect.same("9: doubled", 1, Signs.send(sign, 0, 0));
        Expect.same("9: not shown", 1, sign.sign(17));
        Signs.counts("9: two", sign, 0, 1, 1, 0, 0);
        Expect.same("9: unshown", 3, Signs.send(sign, 2, 2));
        Expect.same("9: nothing shown", 1, sign.sign(17));
        Signs.counts("9: three", sign, 0, 1, 2, 1, 2);
        Expect.same("9: broken", 0, sign.frame(3, 0, (sign.check(3, 0) + 1) % 11));
        Signs.counts("9: four", sign, 1, 1, 2, 1, 2);
        Expect.same("9: without a step", 2, Signs.send(sign, 3, 1));
        Signs.counts("9: five", sign, 1, 1, 3, 1, 3);
        Expect.yes("9: sound", sign.isSound());
    }

    private static void promise9NewAndOld() {
        for (int last = 0; last < 4; last++) {
            for (int ahead = 0; ahead < 8; ahead++) {
                Flapline sign = threeLines();
                Signs.send(sign, last, 0);
                int due = ahead >= 1 && ahead <= 4 ? 2 : 1;
                Expect.same("9: " + ahead + " behind " + last, due, Signs.send(sign, (last + ahead) % 8, 1));
                Expect.same("9: last", due == 2 ? (last + ahead) % 8 : last, sign.sign(13));
            }
        }
        for (int number = 0; number < 8; number++) {
            Expect.same("9: at first " + number, number < 4 ? 2 : 1, Signs.send(threeLines(), number, 0));
        }
    }

    private static void promise9Wrong() {
        Flapline sign = threeLines();
        Expect.argument("9: number below 0", sign, () -> sign.frame(-1, 0, 0));
        Expect.argument("9: number 8", sign, () -> sign.frame(8, 0, 3));
        Expect.argument("9: line below 0", sign, () -> sign.frame(0, -1, 7));
        Expect.argument("9: line 8", sign, () -> sign.frame(0, 8, 8));
        Expect.argument("9: check below 0", sign, () -> sign.frame(0, 0, -1));
        Expect.argument("9: check 11", sign, () -> sign.frame(0, 0, 11));
        Expect.state("9: new, and no such line", sign, () -> Signs.send(sign, 1, 3));
        Expect.same("9: old, and no such line", 1, Signs.send(sign, 7, 3));
        Expect.same("9: broken, and no such line", 0, sign.frame(1, 3, (sign.check(1, 3) + 1) % 11));
    }

    private static void promise10() {
        Flapline sign = threeLines();
        Expect.argument("10: way 0", sign, () -> sign.stop(0, 0));
        Expect.argument("10: way 100", sign, () -> sign.stop(100, 0));
        Expect.argument("10: both wrong", sign, () -> sign.stop(0, 3));
        Expect.index("10: no line 3", sign, () -> sign.stop(1, 3));
        Expect.index("10: below 0", sign, () -> sign.stop(1, -1));
        for (int number = 0; number < 6; number++) {
            Expect.same("10: number", number, sign.stop(number == 0 ? 99 : 1, 2));
        }
        Expect.state("10: a seventh", sign, () -> sign.stop(1, 0));
        Expect.index("10: a seventh, no such line", sign, () -> sign.stop(1, 3));
        Expect.same("10: count", 6, sign.sign(14));

        Flapline ended = threeLines();
        ended.stop(1, 0);
        ended.wheel(1);
        Expect.same("10: the end", NONE, ended.sign(15));
        Expect.state("10: behind the end", ended, () -> ended.stop(1, 0));
        ended.again();
        Expect.same("10: again", 1, ended.stop(1, 0));
    }

    private static void promise11() {
        Flapline sign = threeLines();
        Expect.state("11: no stop", sign, () -> sign.wheel(1));
        Expect.argument("11: 0", sign, () -> sign.wheel(0));
        sign.stop(10, 0);
        sign.stop(20, 1);
        sign.stop(30, 2);
        sign.stop(40, 0);
        Expect.argument("11: below 0", sign, () -> sign.wheel(-1));
        Expect.argument("11: 301", sign, () -> sign.wheel(301));
        Expect.same("11: on the way", 0, sign.wheel(9));
        Expect.same("11: wheel", 9, sign.sign(16));
        Expect.same("11: stop 0 shows nothing", NONE, sign.sign(17));
        Expect.same("11: passes by 4", 1, sign.wheel(5));
        Expect.same("11: stays", 4, sign.sign(16));
        Expect.same("11: shows 1", 1, sign.sign(17));
        Expect.same("11: no plan", 2, sign.wheel(16));
        Expect.same("11: comes to it", 0, sign.sign(16));
        Expect.same("11: still 1", 1, sign.sign(17));
        Expect.same("11: no frame was unshown", 0, sign.sign(12));
        Expect.same("11: to the last", 3, sign.wheel(30));
        Expect.same("11: shows 0", 0, sign.sign(17));
        Expect.same("11: past the end", NONE, sign.wheel(300));
        Expect.same("11: wheel at the end", 0, sign.sign(16));
        Expect.same("11: next at the end", NONE, sign.sign(15));
        Expect.state("11: behind the end", sign, () -> sign.wheel(1));
        Expect.argument("11: wrong behind the end", sign, () -> sign.wheel(0));
        Expect.yes("11: sound at the end", sign.isSound());
    }

    private static void promise11SixStops() {
        Flapline sign = threeLines();
        for (int stop = 0; stop < 6; stop++) {
            sign.stop(stop + 1, 1);
        }
        Expect.same("11: on the way to the last", 5, sign.wheel(20));
        Expect.same("11: five turns of six", 5, sign.sign(16));
        Expect.same("11: line 1", 1, sign.sign(17));
        Expect.same("11: at the end of six", NONE, sign.wheel(1));
        Expect.same("11: no line is shown there", 1, sign.sign(17));
        Expect.same("11: wheel there", 0, sign.sign(16));
        sign.again();
        Expect.same("11: six at once", NONE, sign.wheel(21));
        sign.again();
        Expect.same("11: one less", 5, sign.wheel(20));
        sign.again();
        Expect.same("11: far more", NONE, sign.wheel(300));
    }

    private static void promise11ShowsOnce() {
        Flapline sign = threeLines();
        sign.stop(1, 1);
        sign.stop(1, 0);
        sign.stop(99, 1);
        Expect.same("11: two stops at once", 2, sign.wheel(100));
        Expect.same("11: what is above", 98, sign.sign(16));
        Expect.same("11: one line was shown", 1, sign.sign(8));
        Expect.same("11: only the dots of that", 2, sign.sign(7));
        Expect.same("11: that of now", 1, sign.sign(17));
        sign.show(0);
        Expect.same("11: on the same way", NONE, sign.wheel(1));
        Expect.same("11: nothing is shown at the end", 0, sign.sign(17));
        sign.again();
        Expect.same("11: not in the same way", 0, sign.sign(17));
        sign.wheel(1);
        sign.show(1);
        Expect.same("11: next again", 2, sign.wheel(1));
        sign.show(0);
        Expect.same("11: stays on the way", 2, sign.wheel(1));
        Expect.same("11: shows it once alone", 0, sign.sign(17));
    }

    private static void promise12() {
        Flapline sign = threeLines();
        Expect.same("12: no stops", 0, sign.again());
        sign.stop(5, 0);
        sign.stop(5, 1);
        sign.wheel(7);
        Expect.same("12: stops", 2, sign.again());
        Expect.same("12: wheel", 0, sign.sign(16));
        Expect.same("12: next", 0, sign.sign(15));
        Expect.same("12: the sign stays", 1, sign.sign(17));
        Expect.same("12: its dots, too", 3, sign.column(0, 0));
        sign.wheel(300);
        Expect.same("12: behind the end", 2, sign.again());
        Expect.same("12: next anew", 0, sign.sign(15));
        Expect.same("12: rolls anew", 1, sign.wheel(5));
    }

    private static void promise19() {
        Flapline sign = new Flapline();
        for (int number = 0; number < 8; number++) {
            for (int line = 0; line < 8; line++) {
                Expect.same("19: " + number + ", " + line, (3 * number + 5 * line + 1) % 11, sign.check(number, line));
            }
        }
        Expect.argument("19: number below 0", sign, () -> sign.check(-1, 0));
        Expect.argument("19: number 8", sign, () -> sign.check(8, 0));
        Expect.argument("19: line below 0", sign, () -> sign.check(0, -1));
        Expect.argument("19: line 8", sign, () -> sign.check(0, 8));
    }
}
