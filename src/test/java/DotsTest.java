/** Description 1, sentence by sentence: dots, letters, lines, placed lines, stuck dots, harm. */
public final class DotsTest {
    private static final int NONE = Expect.NONE;
    private static final int[] ROWS_OF_LENGTHS_1_TO_8 = {1, 2, 3, 12, 22, 23, 33, 123};

    public static void main(String[] args) {
        widthsFrom4To8();
        heightsFromTheTop();
        aColumnIsASetFrom0To31();
        allAreDarkAtFirst();
        lettersAreNumberedFrom1To6();
        lettersHave1To3Columns();
        darkColumnsOfALetterCount();
        linesAreNumberedFrom0To7();
        theFirstDigitIsTheFirstLetter();
        oneDarkColumnBetweenTwoLetters();
        lengthsOf1To4Letters();
        noTwoLinesHaveTheSameRow();
        offsetsFrom0ToWidthLessLength();
        aLineLongerThanTheSign();
        saidAtEachOffset();
        notSaidWithAnotherDot();
        notSaidBesideTheSign();
        stuckDotsAlwaysShowThat();
        freedDotsShowWhatTheyShowed();
        harmOfEachKind();
        harmOfAllDots();
        harmBesideTheForm();
        theLeastHarm();
        ofEqualHarmTheSmallestOffset();
        Expect.finish();
    }

    /** Letters of 1, 2 and 3 bright columns, as the letters 1, 2 and 3. */
    private static Flapline brightOnes() {
        Flapline sign = new Flapline();
        sign.letter(1, 31, 0, 0);
        sign.letter(2, 31, 31, 0);
        sign.letter(3, 31, 31, 31);
        return sign;
    }

    private static void widthsFrom4To8() {
        for (int width = 4; width <= 8; width++) {
            Flapline sign = new Flapline();
            Expect.same("1: 8 at first", 8, sign.width(width));
            Expect.same("1: width", width, sign.sign(0));
            Expect.same("1: columns", "........".substring(0, width), sign.row(0));
            Expect.same("1: the last column", 0, sign.column(width - 1, 0));
            Expect.same("1: its last dot", 0, sign.dot(width - 1, 4, 0));
            int behind = width;
            Expect.index("1: the next column", sign, () -> sign.column(behind, 0));
            Expect.index("1: its dots", sign, () -> sign.dot(behind, 0, 0));
            Expect.same("1: the last bright", 0, sign.stick(width - 1, 4, 1));
            Expect.same("1: as a row", "........".substring(0, width - 1) + "o", sign.row(4));
        }
    }

    private static void heightsFromTheTop() {
        for (int height = 0; height < 5; height++) {
            Flapline sign = new Flapline();
            Signs.paint(sign, 2, 1 << height);
            for (int other = 0; other < 5; other++) {
                Expect.same("1: dot", other == height ? 1 : 0, sign.dot(2, other, 0));
                Expect.same("1: row", other == height ? "..o....." : "........", sign.row(other));
            }
        }
    }

    private static void aColumnIsASetFrom0To31() {
        Flapline sign = new Flapline();
        for (int set = 31; set >= 0; set--) {
            Signs.paint(sign, 7, set);
            Expect.same("1: column", set, sign.column(7, 0));
        }
        Signs.shows("1: the others", sign);
    }

    private static void allAreDarkAtFirst() {
        Flapline sign = new Flapline();
        Signs.shows("1: dark at first", sign);
        for (int column = 0; column < 8; column++) {
            for (int height = 0; height < 5; height++) {
                Expect.same("1: dark", 0, sign.dot(column, height, 0));
                Expect.same("1: never flipped", 0, sign.dot(column, height, 1));
                Expect.same("1: free", NONE, sign.dot(column, height, 2));
            }
        }
    }

    private static void lettersAreNumberedFrom1To6() {
        Flapline sign = new Flapline();
        for (int letter = 1; letter <= 6; letter++) {
            Expect.same("1: letter", letter, sign.letter(1, letter, 0, 0));
            Expect.same("1: letters", letter, sign.sign(3));
        }
        Expect.state("1: at most 6", sign, () -> sign.letter(1, 7, 0, 0));
        for (int letter = 1; letter <= 6; letter++) {
            int line = sign.list(letter);
            Expect.same("1: a line of it", letter - 1, line);
            Expect.same("1: its dots", Integer.bitCount(letter), sign.ofLine(line, 4));
        }
    }

    private static void lettersHave1To3Columns() {
        Flapline sign = brightOnes();
        Signs.list(sign, 1, 2, 3);
        for (int columns = 1; columns <= 3; columns++) {
            Expect.same("1: columns", columns, sign.ofLine(columns - 1, 1));
            Expect.same("1: dots", 5 * columns, sign.ofLine(columns - 1, 7));
        }
        sign.power(40, 0);
        sign.show(0);
        Signs.shows("1: one", sign, 31);
        sign.show(1);
        Signs.shows("1: two", sign, 31, 31);
        sign.show(2);
        Signs.shows("1: three", sign, 31, 31, 31);
    }

    private static void darkColumnsOfALetterCount() {
        int[][] letters = {{2, 0, 9, 0}, {2, 9, 0, 0}, {3, 0, 9, 0}, {3, 9, 0, 0}, {3, 0, 0, 9}, {3, 9, 0, 9}};
        for (int[] letter : letters) {
            Flapline sign = new Flapline();
            sign.letter(letter[0], letter[1], letter[2], letter[3]);
            sign.list(1);
            sign.list(11);
            Expect.same("1: length", letter[0], sign.ofLine(0, 1));
            Expect.same("1: length of two", 2 * letter[0] + 1, sign.ofLine(1, 1));
            sign.show(0);
            Signs.shows("1: letter", sign, letter[1], letter[2], letter[3]);
            sign.power(40, 0);
            sign.show(1);
            int behind = letter[0] + 1;
            for (int place = 0; place < letter[0]; place++) {
                Expect.same("1: the second one", letter[place + 1], sign.column(behind + place, 0));
            }
        }
    }

    private static void linesAreNumberedFrom0To7() {
        Flapline sign = brightOnes();
        for (int line = 0; line < 8; line++) {
            Expect.same("1: line", line, sign.list(ROWS_OF_LENGTHS_1_TO_8[line]));
            Expect.same("1: lines", line + 1, sign.sign(4));
        }
        Expect.state("1: at most 8", sign, () -> sign.list(11));
        for (int line = 0; line < 8; line++) {
            Expect.same("1: its row", ROWS_OF_LENGTHS_1_TO_8[line], sign.ofLine(line, 0));
            Expect.same("1: its length", line + 1, sign.ofLine(line, 1));
        }
    }

    private static void theFirstDigitIsTheFirstLetter() {
        Flapline sign = Signs.with(Signs.letters(1, 2, 4, 8, 16, 31), 12, 21, 3456, 6543);
        sign.power(40, 0);
        sign.show(0);
        Signs.shows("1: 12", sign, 1, 0, 2);
        sign.show(1);
        Signs.shows("1: 21", sign, 2, 0, 1);
        sign.show(2);
        Signs.shows("1: 3456", sign, 4, 0, 8, 0, 16, 0, 31);
        sign.show(3);
        Signs.shows("1: 6543", sign, 31, 0, 16, 0, 8, 0, 4);
    }

    private static void oneDarkColumnBetweenTwoLetters() {
        Flapline sign = brightOnes();
        Signs.list(sign, 11, 111, 1111, 32, 23);
        sign.power(40, 0);
        sign.show(0);
        Signs.shows("1: two letters", sign, 31, 0, 31);
        sign.show(1);
        Signs.shows("1: three letters", sign, 31, 0, 31, 0, 31);
        sign.show(2);
        Signs.shows("1: four letters", sign, 31, 0, 31, 0, 31, 0, 31);
        sign.show(3);
        Signs.shows("1: a wide one first", sign, 31, 31, 31, 0, 31, 31);
        sign.show(4);
        Signs.shows("1: a wide one last", sign, 31, 31, 0, 31, 31, 31);
    }

    private static void lengthsOf1To4Letters() {
        Flapline sign = brightOnes();
        Signs.list(sign, 1, 11, 111, 1111, 3, 33, 333, 3333);
        int[] due = {1, 3, 5, 7, 3, 7, 11, 15};
        for (int line = 0; line < due.length; line++) {
            Expect.same("1: length of line " + line, due[line], sign.ofLine(line, 1));
        }
        sign.width(4);
        for (int line = 0; line < due.length; line++) {
            Expect.same("1: by whatever width " + line, due[line], sign.ofLine(line, 1));
        }
    }

    private static void noTwoLinesHaveTheSameRow() {
        Flapline sign = Signs.with(Signs.letters(31, 31), 1, 11, 12);
        Expect.state("1: the first row again", sign, () -> sign.list(1));
        Expect.state("1: the last row again", sign, () -> sign.list(12));
        Expect.same("1: the same form by another row", 3, sign.list(2));
        Expect.same("1: and by a third", 4, sign.list(21));
    }

    private static void offsetsFrom0ToWidthLessLength() {
        for (int width = 4; width <= 8; width++) {
            Flapline sign = brightOnes();
            Signs.list(sign, ROWS_OF_LENGTHS_1_TO_8);
            sign.width(width);
            for (int length = 1; length <= width; length++) {
                Expect.same("1: offset 0", 0, sign.ofLine(length - 1, 2));
            }
            sign.stick(width - 1, 0, 1);
            for (int length = 1; length <= width; length++) {
                String what = "1: length " + length + " of " + width;
                Expect.same(what + ": the last offset", width - length, sign.ofLine(length - 1, 2));
                Expect.same(what + ": no harm there", 0, sign.ofLine(length - 1, 3));
            }
        }
    }

    private static void aLineLongerThanTheSign() {
        for (int width = 4; width <= 8; width++) {
            Flapline sign = brightOnes();
            Signs.list(sign, 12, 22, 23, 33, 123, 133);
            sign.width(width);
            for (int line = 0; line < 6; line++) {
                boolean fits = line + 4 <= width;
                String what = "1: length " + (line + 4) + " of " + width;
                Expect.same(what, line + 4, sign.ofLine(line, 1));
                Expect.same(what + ": offset", fits ? 0 : NONE, sign.ofLine(line, 2));
                Expect.same(what + ": harm", fits ? 0 : NONE, sign.ofLine(line, 3));
                Expect.same(what + ": distance", fits ? dotsOf(line + 4) : NONE, sign.ofLine(line, 4));
                Expect.same(what + ": said", 0, sign.ofLine(line, 5));
                Expect.same(what + ": flips", fits ? dotsOf(line + 4) : NONE, sign.ofLine(line, 7));
            }
            Expect.same("1: the longest is listed by width " + width, 6, sign.list(3333));
            Expect.same("1: its length", 15, sign.ofLine(6, 1));
            Expect.same("1: it has no place", NONE, sign.ofLine(6, 2));
        }
    }

    /** Two letters up to length 7, three from length 8 on: so many columns less are bright. */
    private static int dotsOf(int length) {
        return 5 * (length <= 7 ? length - 1 : length - 2);
    }

    private static void saidAtEachOffset() {
        for (int offset = 0; offset <= 4; offset++) {
            Flapline sign = new Flapline();
            sign.letter(1, 31, 0, 0);
            sign.letter(2, 1, 2, 0);
            sign.list(12);
            sign.list(1);
            Expect.same("1: dark says none", 0, sign.ofLine(0, 5));
            Signs.paint(sign, offset, 31);
            Expect.same("1: the first letter alone", 0, sign.ofLine(0, 5));
            Expect.same("1: says that", 1, sign.ofLine(1, 5));
            Signs.paint(sign, offset + 2, 1);
            Signs.paint(sign, offset + 3, 2);
            Expect.same("1: said at " + offset, 1, sign.ofLine(0, 5));
            Expect.same("1: no more", 0, sign.ofLine(1, 5));
        }
    }

    private static void notSaidWithAnotherDot() {
        Flapline sign = Signs.with(Signs.letters(7), 1);
        sign.show(0);
        Expect.same("1: said", 1, sign.ofLine(0, 5));
        for (int column = 0; column < 8; column++) {
            int set = sign.column(column, 0);
            Signs.paint(sign, column, set ^ 1 << 3);
            Expect.same("1: a dot more in " + column, 0, sign.ofLine(0, 5));
            Signs.paint(sign, column, set);
            Expect.same("1: said again", 1, sign.ofLine(0, 5));
        }
        Signs.paint(sign, 0, 3);
        Expect.same("1: a dot less", 0, sign.ofLine(0, 5));
    }

    private static void notSaidBesideTheSign() {
        Flapline sign = new Flapline();
        sign.letter(2, 31, 0, 0);
        sign.letter(2, 0, 31, 0);
        sign.list(1);
        sign.list(2);
        Signs.paint(sign, 7, 31);
        Expect.same("1: it would go on behind the sign", 0, sign.ofLine(0, 5));
        Expect.same("1: as far as two columns", 10, sign.ofLine(0, 4));
        Expect.same("1: that ends there", 1, sign.ofLine(1, 5));
        Signs.paint(sign, 7, 0);
        Signs.paint(sign, 0, 31);
        Expect.same("1: that begins there", 1, sign.ofLine(0, 5));
        Expect.same("1: it would begin ahead of the sign", 0, sign.ofLine(1, 5));
        Expect.same("1: as far, too", 10, sign.ofLine(1, 4));
    }

    private static void stuckDotsAlwaysShowThat() {
        Flapline sign = new Flapline();
        sign.width(4);
        sign.letter(3, 30, 30, 30);
        sign.letter(1, 31, 0, 0);
        Signs.list(sign, 1, 2);
        sign.stick(0, 0, 1);
        sign.stick(1, 1, 0);
        sign.stick(3, 4, 1);
        sign.power(40, 3);
        Expect.same("1: each offset does harm", 2, sign.ofLine(0, 3));
        Expect.same("1: shown all the same", 1, sign.show(0));
        Signs.shows("1: but for those", sign, 1, 28, 30, 30);
        sign.show(1);
        Expect.same("1: at offset 0", 0, sign.ofLine(1, 2));
        Signs.shows("1: always", sign, 31, 0, 0, 16);
        Expect.same("1: never flipped", 0, sign.dot(0, 0, 1) + sign.dot(1, 1, 1) + sign.dot(3, 4, 1));
    }

    private static void freedDotsShowWhatTheyShowed() {
        Flapline sign = Signs.with(Signs.letters(31), 1);
        sign.stick(0, 0, 0);
        sign.stick(1, 0, 1);
        Expect.same("1: shows 0", 0, sign.stick(0, 0, NONE));
        Expect.same("1: shows 1", 1, sign.stick(1, 0, NONE));
        Signs.shows("1: still", sign, 0, 1);
        Expect.same("1: none is stuck", 0, sign.sign(6));
        Expect.same("1: no harm any more", 0, sign.ofLine(0, 2));
        sign.show(0);
        Signs.shows("1: flipped as others", sign, 31);
        Expect.same("1: a flip", 1, sign.dot(1, 0, 1));
    }

    /** The form 7, 0, 1, 2 is as long as the sign is wide. */
    private static Flapline asLongAsWide() {
        Flapline sign = new Flapline();
        sign.width(4);
        sign.letter(1, 7, 0, 0);
        sign.letter(2, 1, 2, 0);
        sign.list(12);
        return sign;
    }

    private static void harmOfEachKind() {
        Flapline sign = asLongAsWide();
        Expect.same("1: no harm", 0, sign.ofLine(0, 3));
        sign.stick(0, 0, 0);
        Expect.same("1: a bright one at 0", 1, sign.ofLine(0, 3));
        sign.stick(0, 4, 1);
        Expect.same("1: a dark one at 1", 2, sign.ofLine(0, 3));
        sign.stick(1, 0, 1);
        Expect.same("1: one between two letters at 1", 3, sign.ofLine(0, 3));
        sign.stick(0, 1, 1);
        Expect.same("1: a bright one at 1 does no harm", 3, sign.ofLine(0, 3));
        sign.stick(0, 3, 0);
        Expect.same("1: nor does a dark one at 0", 3, sign.ofLine(0, 3));
        sign.stick(1, 1, 0);
        Expect.same("1: nor one between two letters at 0", 3, sign.ofLine(0, 3));
        sign.stick(3, 1, 0);
        Expect.same("1: in the last column", 4, sign.ofLine(0, 3));
        sign.stick(0, 0, NONE);
        Expect.same("1: a free one does none", 3, sign.ofLine(0, 3));
        sign.stick(0, 4, 0);
        Expect.same("1: one that is stuck otherwise", 2, sign.ofLine(0, 3));
        sign.swap(1);
        Expect.same("1: nor one that is swapped", 1, sign.ofLine(0, 3));
    }

    private static void harmOfAllDots() {
        Flapline sign = asLongAsWide();
        for (int column = 0; column < 4; column++) {
            Signs.stickColumn(sign, column, 1);
        }
        Expect.same("1: all at 1: the dark ones", 15, sign.ofLine(0, 3));
        Expect.same("1: nothing changes then", 0, sign.show(0));
        for (int column = 0; column < 4; column++) {
            Signs.stickColumn(sign, column, 0);
        }
        Expect.same("1: all at 0: the bright ones", 5, sign.ofLine(0, 3));
        Expect.same("1: all are stuck", 20, sign.sign(6));
        Expect.same("1: no flip of any", 0, sign.ofLine(0, 7));
        Expect.same("1: the only offset", 0, sign.ofLine(0, 2));

        Flapline wide = Signs.with(Signs.letters(31), 1);
        for (int column = 0; column < 8; column++) {
            Signs.stickColumn(wide, column, 1);
        }
        Expect.same("1: all 40 are stuck", 40, wide.sign(6));
        Expect.same("1: the most harm", 35, wide.ofLine(0, 3));
        Expect.same("1: as far", 35, wide.ofLine(0, 4));
    }

    private static void harmBesideTheForm() {
        Flapline sign = new Flapline();
        sign.width(4);
        sign.letter(3, 31, 31, 31);
        sign.list(1);
        sign.stick(3, 0, 1);
        Expect.same("1: beside it behind", 1, sign.ofLine(0, 2));
        Expect.same("1: none there", 0, sign.ofLine(0, 3));
        sign.stick(0, 0, 1);
        Expect.same("1: beside it ahead, too", 0, sign.ofLine(0, 2));
        Expect.same("1: one", 1, sign.ofLine(0, 3));
        sign.stick(3, 1, 0);
        Expect.same("1: stuck at 0 does none beside it", 0, sign.ofLine(0, 2));
        Expect.same("1: still one", 1, sign.ofLine(0, 3));
        sign.stick(3, 2, 1);
        Expect.same("1: two on either side", 2, sign.ofLine(0, 3));
        sign.stick(3, 3, 1);
        Expect.same("1: three behind, two ahead", 1, sign.ofLine(0, 2));
    }

    private static void theLeastHarm() {
        Flapline sign = Signs.with(Signs.letters(31), 1);
        int[] stuckDots = {3, 2, 2, 1, 2, 3, 2, 2};
        for (int column = 0; column < 8; column++) {
            for (int height = 0; height < stuckDots[column]; height++) {
                sign.stick(column, height, 0);
            }
        }
        Expect.same("1: the least in the middle", 3, sign.ofLine(0, 2));
        Expect.same("1: one", 1, sign.ofLine(0, 3));
        sign.stick(3, 1, 0);
        sign.stick(3, 2, 0);
        sign.stick(7, 1, NONE);
        Expect.same("1: the least at the last offset", 7, sign.ofLine(0, 2));
        sign.swap(0);
        Expect.same("1: the least at the first offset", 0, sign.ofLine(0, 2));
        Expect.same("1: none", 0, sign.ofLine(0, 3));
        sign.show(0);
        Signs.shows("1: it is shown there", sign, 31);
    }

    private static void ofEqualHarmTheSmallestOffset() {
        Flapline sign = Signs.with(Signs.letters(31), 1);
        Expect.same("1: nothing is stuck", 0, sign.ofLine(0, 2));
        for (int column = 0; column < 8; column++) {
            sign.stick(column, 0, 0);
        }
        Expect.same("1: the same at each", 0, sign.ofLine(0, 2));
        Expect.same("1: one", 1, sign.ofLine(0, 3));
        sign.stick(0, 1, 0);
        Expect.same("1: the first of seven", 1, sign.ofLine(0, 2));
        sign.swap(5);
        sign.swap(6);
        Expect.same("1: the first of two", 5, sign.ofLine(0, 2));
        sign.show(0);
        Expect.same("1: shown at 5", 31, sign.column(5, 0));
        Expect.same("1: still the same", 5, sign.ofLine(0, 2));
    }
}
