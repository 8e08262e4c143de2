/**
 * A sign of dots that are flipped: it places lines where stuck dots do the least harm, changes from one line
 * to the next in the fewest steps that show no wrong line half way, and is told what to show by hand, by
 * frames on a wire, or by the wheel of its bus.
 *
 * A picture is one long: the dot at a height of a column is the bit 5 * column + height, so the dots of the
 * widest sign are 40 bits. A set of columns is an int with the bit k for the column k.
 */
public final class Flapline {
    private static final int NONE = -1;
    private static final int HEIGHTS = 5;
    private static final int ALL_BRIGHT = 31;
    private static final int FEWEST_COLUMNS = 4;
    private static final int MOST_COLUMNS = 8;
    private static final int SETS_OF_COLUMNS = 256;
    private static final int MOST_POWER = 40;
    private static final int MOST_BLUR = 10;
    private static final int MOST_LETTERS = 6;
    private static final int MOST_LINES = 8;
    private static final int LARGEST_ROW = 9999;
    private static final int LETTERS_IN_A_ROW = 4;
    private static final int MOST_STOPS = 6;
    private static final int MOST_WAY = 99;
    private static final int MOST_TURNS = 300;
    private static final int LARGEST_NUMBER = 7;
    private static final int NUMBERS = 8;
    private static final int CHECK_MODULUS = 11;
    private static final int FRAMES_AHEAD = 4;
    private static final int BROKEN = 0;
    private static final int OLD = 1;
    private static final int TAKEN = 2;
    private static final int TAKEN_UNSHOWN = 3;
    private static final int LAST_OF_DOT = 2;
    private static final int LAST_OF_COLUMN = 2;
    private static final int LAST_OF_LINE = 7;
    private static final int FIRST_OF_PLAN = 6;
    private static final int LAST_OF_SIGN = 17;
    private static final long DIGEST_START = 3769;
    private static final int DIGEST_FACTOR = 31;

    private final Board board = new Board();
    private final Book book = new Book();
    private final Planner planner = new Planner();
    private final Wire wire = new Wire();
    private final Route route = new Route();
    private int power = 10;
    private int blur = 3;
    private int stepsEver;
    private int shownLast = NONE;

    public Flapline() {
    }

    // ---- the sign and its letters

    public int width(int width) throws IllegalArgumentException {
        if (width < FEWEST_COLUMNS || width > MOST_COLUMNS) {
            throw new IllegalArgumentException("width is not 4 to 8");
        }
        int before = board.columns;
        board.begin(width);
        shownLast = NONE;
        return before;
    }

    public int power(int power, int blur) throws IllegalArgumentException {
        if (power < 1 || power > MOST_POWER || blur < 0 || blur > MOST_BLUR) {
            throw new IllegalArgumentException("power is not 1 to 40, or blur not 0 to 10");
        }
        int before = this.power;
        this.power = power;
        this.blur = blur;
        return before;
    }

    public int letter(int columns, int first, int second, int third)
            throws IllegalArgumentException, IllegalStateException {
        if (columns < 1 || columns > 3 || !isColumnSet(first) || !isColumnSet(second) || !isColumnSet(third)) {
            throw new IllegalArgumentException("columns is not 1 to 3, or a COLUMN not 0 to 31");
        }
        if ((columns < 2 && second != 0) || (columns < 3 && third != 0) || (first | second | third) == 0) {
            throw new IllegalArgumentException("a COLUMN that is not there is not 0, or all are 0");
        }
        if (book.letters >= MOST_LETTERS) {
            throw new IllegalStateException("there are 6 LETTERS");
        }
        return book.addLetter(columns, first | second << HEIGHTS | third << 2 * HEIGHTS);
    }

    public int list(int letters) throws IllegalArgumentException, IllegalStateException {
        if (!book.canSpell(letters)) {
            throw new IllegalArgumentException("not 1 to 4 digits, or no such LETTER");
        }
        if (book.lines >= MOST_LINES || book.hasRow(letters)) {
            throw new IllegalStateException("there are 8 LINES, or one with that row");
        }
        return book.addLine(letters);
    }

    public int stick(int column, int height, int face) throws IndexOutOfBoundsException, IllegalArgumentException {
        needDot(column, height);
        if (face < NONE || face > 1) {
            throw new IllegalArgumentException("face is not NONE, 0 or 1");
        }
        int before = board.faceOf(column, height);
        board.fix(column, height, face);
        return before;
    }

    public int swap(int column) throws IndexOutOfBoundsException {
        needColumn(column);
        int before = at(board.wear, column);
        board.renewColumn(column);
        return before;
    }

    // ---- showing

    public int show(int line) throws IndexOutOfBoundsException {
        needLine(line);
        return bringUp(line);
    }

    public int frame(int number, int line, int check) throws IllegalArgumentException, IllegalStateException {
        if (!isNumber(number) || !isNumber(line) || check < 0 || check >= CHECK_MODULUS) {
            throw new IllegalArgumentException("number or line is not 0 to 7, or check not 0 to 10");
        }
        if (check != checkOf(number, line)) {
            wire.broken++;
            return BROKEN;
        }
        if (!wire.isNew(number)) {
            wire.old++;
            return OLD;
        }
        if (!isLine(line)) {
            throw new IllegalStateException("no such LINE for a NEW FRAME");
        }
        wire.take(number);
        if (bringUp(line) == NONE) {
            wire.unshown++;
            return TAKEN_UNSHOWN;
        }
        return TAKEN;
    }

    public int stop(int way, int line)
            throws IllegalArgumentException, IndexOutOfBoundsException, IllegalStateException {
        if (way < 1 || way > MOST_WAY) {
            throw new IllegalArgumentException("way is not 1 to 99");
        }
        needLine(line);
        if (route.stops >= MOST_STOPS || route.next == NONE) {
            throw new IllegalStateException("there are 6 STOPS, or NEXT is NONE");
        }
        return route.addStop(way, line);
    }

    public int wheel(int turns) throws IllegalArgumentException, IllegalStateException {
        if (turns < 1 || turns > MOST_TURNS) {
            throw new IllegalArgumentException("turns is not 1 to 300");
        }
        if (route.stops == 0 || route.next == NONE) {
            throw new IllegalStateException("there is no STOP, or NEXT is NONE");
        }
        int ahead = route.next;
        route.roll(turns);
        if (route.next != ahead && route.next != NONE) {
            bringUp(at(route.linesOfStops, route.next));
        }
        return route.next;
    }

    public int again() {
        route.next = 0;
        route.turned = 0;
        return route.stops;
    }

    // ---- what is asked

    public int dot(int column, int height, int what) throws IndexOutOfBoundsException, IllegalArgumentException {
        needDot(column, height);
        if (what < 0 || what > LAST_OF_DOT) {
            throw new IllegalArgumentException("what is not 0 to 2");
        }
        if (what == 0) {
            return board.faceOf(column, height);
        }
        return what == 1 ? at(board.flips, bitOf(column, height)) : board.stuckFaceOf(column, height);
    }

    public int column(int column, int what) throws IndexOutOfBoundsException, IllegalArgumentException {
        needColumn(column);
        if (what < 0 || what > LAST_OF_COLUMN) {
            throw new IllegalArgumentException("what is not 0 to 2");
        }
        return columnFact(column, what);
    }

    public int ofLine(int line, int what) throws IndexOutOfBoundsException, IllegalArgumentException {
        needLine(line);
        if (what < 0 || what > LAST_OF_LINE) {
            throw new IllegalArgumentException("what is not 0 to 7");
        }
        if (what >= FIRST_OF_PLAN) {
            makePlan(line);
        }
        return lineFact(line, what);
    }

    public int step(int line, int nth) throws IndexOutOfBoundsException, IllegalArgumentException {
        needLine(line);
        if (nth < 0) {
            throw new IllegalArgumentException("nth is below 0");
        }
        makePlan(line);
        return planner.setOf(nth);
    }

    public String row(int height) throws IndexOutOfBoundsException {
        if (!isHeight(height)) {
            throw new IndexOutOfBoundsException("height is not 0 to 4");
        }
        StringBuilder text = new StringBuilder();
        for (int column = 0; column < board.columns; column++) {
            text.append(board.faceOf(column, height) == 1 ? 'o' : '.');
        }
        return text.toString();
    }

    public int sign(int what) throws IllegalArgumentException {
        if (what < 0 || what > LAST_OF_SIGN) {
            throw new IllegalArgumentException("what is not 0 to 17");
        }
        return signFact(what);
    }

    // ---- what would be

    public int check(int number, int line) throws IllegalArgumentException {
        if (!isNumber(number) || !isNumber(line)) {
            throw new IllegalArgumentException("number or line is not 0 to 7");
        }
        return checkOf(number, line);
    }

    public int apart(int one, int other) throws IndexOutOfBoundsException {
        needLine(one);
        needLine(other);
        int least = NONE;
        for (int offset = 0; offset <= lastOffset(one); offset++) {
            least = lesser(least, distance(book.placed(one, offset), other));
        }
        return least;
    }

    public int wouldRead(int line) throws IndexOutOfBoundsException {
        needLine(line);
        return readOfGoal(line);
    }

    public boolean isSound() {
        for (int line = 0; line < book.lines; line++) {
            if (!planIsTrue(line)) {
                return false;
            }
        }
        return board.isTrue() && route.isTrue();
    }

    public long digest() {
        long sum = DIGEST_START;
        for (int what = 0; what <= LAST_OF_SIGN; what++) {
            sum = sum * DIGEST_FACTOR + signFact(what);
        }
        for (int column = 0; column < board.columns; column++) {
            for (int what = 0; what <= LAST_OF_COLUMN; what++) {
                sum = sum * DIGEST_FACTOR + columnFact(column, what);
            }
        }
        for (int line = 0; line < book.lines; line++) {
            sum = addLineTo(sum, line);
        }
        return sum * DIGEST_FACTOR + (isSound() ? 1 : 0);
    }

    // ---- what may be asked for

    private void needColumn(int column) {
        if (column < 0 || column >= board.columns) {
            throw new IndexOutOfBoundsException("no such COLUMN");
        }
    }

    private void needDot(int column, int height) {
        needColumn(column);
        if (!isHeight(height)) {
            throw new IndexOutOfBoundsException("height is not 0 to 4");
        }
    }

    private void needLine(int line) {
        if (!isLine(line)) {
            throw new IndexOutOfBoundsException("no such LINE");
        }
    }

    private boolean isLine(int line) {
        return line >= 0 && line < book.lines;
    }

    private static boolean isHeight(int height) {
        return height >= 0 && height < HEIGHTS;
    }

    private static boolean isColumnSet(int set) {
        return set >= 0 && set <= ALL_BRIGHT;
    }

    private static boolean isNumber(int number) {
        return number >= 0 && number <= LARGEST_NUMBER;
    }

    private static int checkOf(int number, int line) {
        return (3 * number + 5 * line + 1) % CHECK_MODULUS;
    }

    // ---- single facts

    private int columnFact(int column, int what) {
        if (what == 0) {
            return setIn(board.picture, column);
        }
        return what == 1 ? at(board.wear, column) : Integer.bitCount(setIn(board.stuck, column));
    }

    /** The facts from FIRST_OF_PLAN on are those of the plan made last, so that one plan can tell them all. */
    private int lineFact(int line, int what) {
        switch (what) {
            case 0:
                return at(book.rows, line);
            case 1:
                return at(book.lengths, line);
            case 2:
                return bestOffset(line);
            case 3:
                return leastHarm(line);
            case 4:
                return distance(board.picture, line);
            case 5:
                return says(board.picture, line) ? 1 : 0;
            case 6:
                return planner.steps;
            default:
                return planner.flips();
        }
    }

    private int signFact(int what) {
        switch (what) {
            case 0:
                return board.columns;
            case 1:
                return power;
            case 2:
                return blur;
            case 3:
                return book.letters;
            case 4:
                return book.lines;
            case 5:
                return readAs(board.picture);
            case 6:
                return Long.bitCount(board.stuck);
            case 7:
                return board.allFlips();
            case 8:
                return stepsEver;
            case 17:
                return shownLast;
            default:
                return what <= 13 ? wire.fact(what) : route.fact(what);
        }
    }

    private long addLineTo(long sum, int line) {
        long added = sum;
        makePlan(line);
        for (int what = 1; what <= LAST_OF_LINE; what++) {
            added = added * DIGEST_FACTOR + lineFact(line, what);
        }
        added = added * DIGEST_FACTOR + planner.setOf(0);
        added = added * DIGEST_FACTOR + planner.setOf(1);
        return added * DIGEST_FACTOR + readOfGoal(line);
    }

    // ---- places and pictures of lines

    /** Below 0, if the line is longer than the sign: then no offset is there to be looped over. */
    private int lastOffset(int line) {
        return line >= 0 && line < book.lengths.length ? board.columns - book.lengths[line] : NONE;
    }

    private int harm(int line, int offset) {
        return Long.bitCount((book.placed(line, offset) ^ board.stuckBright) & board.stuck);
    }

    private int bestOffset(int line) {
        int best = NONE;
        int least = NONE;
        for (int offset = 0; offset <= lastOffset(line); offset++) {
            int harm = harm(line, offset);
            if (best == NONE || harm < least) {
                best = offset;
                least = harm;
            }
        }
        return best;
    }

    private int leastHarm(int line) {
        int offset = bestOffset(line);
        return offset == NONE ? NONE : harm(line, offset);
    }

    private int distance(long picture, int line) {
        int least = NONE;
        for (int offset = 0; offset <= lastOffset(line); offset++) {
            least = lesser(least, Long.bitCount(picture ^ book.placed(line, offset)));
        }
        return least;
    }

    private boolean says(long picture, int line) {
        return distance(picture, line) == 0;
    }

    private int readAs(long picture) {
        int read = NONE;
        int least = NONE;
        for (int line = 0; line < book.lines; line++) {
            int apart = distance(picture, line);
            if (apart != NONE && apart == least) {
                read = NONE;
            } else if (apart != NONE && (least == NONE || apart < least)) {
                read = line;
                least = apart;
            }
        }
        return least <= blur ? read : NONE;
    }

    private int readOfGoal(int line) {
        int offset = bestOffset(line);
        return offset == NONE ? NONE : readAs(goalAt(line, offset));
    }

    private long goalAt(int line, int offset) {
        return board.withStuck(book.placed(line, offset));
    }

    // ---- changes

    private int bringUp(int line) {
        makePlan(line);
        if (planner.steps != NONE) {
            board.turnTo(planner.goal);
            stepsEver += planner.steps;
            shownLast = line;
        }
        return planner.steps;
    }

    private void makePlan(int line) {
        int offset = bestOffset(line);
        if (offset == NONE) {
            planner.giveUp();
            return;
        }
        planner.begin(board.picture, goalAt(line, offset), power);
        for (int other = 0; other < book.lines; other++) {
            if (other != line && !says(board.picture, other)) {
                forbidPlacesOf(other);
            }
        }
        planner.choose();
    }

    private void forbidPlacesOf(int line) {
        for (int offset = 0; offset <= lastOffset(line); offset++) {
            planner.forbid(book.placed(line, offset));
        }
    }

    private boolean planIsTrue(int line) {
        makePlan(line);
        int done = 0;
        for (int nth = 0; nth < planner.steps - 1; nth++) {
            done |= planner.setOf(nth);
            if (isWrong(planner.pictureBehind(done), line)) {
                return false;
            }
        }
        return true;
    }

    private boolean isWrong(long picture, int line) {
        for (int other = 0; other < book.lines; other++) {
            if (other != line && says(picture, other) && !says(board.picture, other)) {
                return true;
            }
        }
        return false;
    }

    // ---- small helpers of all classes

    private static int bitOf(int column, int height) {
        return HEIGHTS * column + height;
    }

    private static long dotIn(int column, int height) {
        return 1L << bitOf(column, height);
    }

    private static int setIn(long picture, int column) {
        return (int) (picture >>> HEIGHTS * column) & ALL_BRIGHT;
    }

    /** The lesser of two numbers, of which the first is NONE as long as there is none. */
    private static int lesser(int least, int next) {
        return least == NONE || (next != NONE && next < least) ? next : least;
    }

    private static int at(int[] values, int index) {
        return index >= 0 && index < values.length ? values[index] : 0;
    }

    private static void put(int[] values, int index, int value) {
        if (index >= 0 && index < values.length) {
            values[index] = value;
        }
    }

    private static void put(long[] values, int index, long value) {
        if (index >= 0 && index < values.length) {
            values[index] = value;
        }
    }

    /** The dots: what they show, which are stuck, and how often they were flipped. */
    private static final class Board {
        private final int[] flips = new int[MOST_COLUMNS * HEIGHTS];
        private final int[] wear = new int[MOST_COLUMNS];
        private int columns = MOST_COLUMNS;
        private long picture;
        private long stuck;
        private long stuckBright;

        private void begin(int width) {
            columns = width;
            picture = 0;
            stuck = 0;
            stuckBright = 0;
            for (int bit = 0; bit < flips.length; bit++) {
                flips[bit] = 0;
            }
            for (int column = 0; column < wear.length; column++) {
                wear[column] = 0;
            }
        }

        private int faceOf(int column, int height) {
            return (picture & dotIn(column, height)) == 0 ? 0 : 1;
        }

        private int stuckFaceOf(int column, int height) {
            long dot = dotIn(column, height);
            if ((stuck & dot) == 0) {
                return NONE;
            }
            return (stuckBright & dot) == 0 ? 0 : 1;
        }

        private void fix(int column, int height, int face) {
            long dot = dotIn(column, height);
            stuck = face == NONE ? stuck & ~dot : stuck | dot;
            stuckBright = face == 1 ? stuckBright | dot : stuckBright & ~dot;
            picture = withStuck(picture);
        }

        private void renewColumn(int column) {
            long kept = ~((long) ALL_BRIGHT << bitOf(column, 0));
            picture &= kept;
            stuck &= kept;
            stuckBright &= kept;
            put(wear, column, 0);
        }

        private long withStuck(long told) {
            return told & ~stuck | stuckBright;
        }

        /** Every changed column is in one step of a plan alone, so a dot that differs is flipped once. */
        private void turnTo(long goal) {
            long turned = picture ^ goal;
            for (int column = 0; column < columns; column++) {
                put(wear, column, at(wear, column) + Integer.bitCount(setIn(turned, column)));
            }
            for (int bit = 0; bit < flips.length; bit++) {
                flips[bit] += (int) (turned >>> bit & 1);
            }
            picture = goal;
        }

        private int flipsIn(int column) {
            int sum = 0;
            for (int height = 0; height < HEIGHTS; height++) {
                sum += at(flips, bitOf(column, height));
            }
            return sum;
        }

        private int allFlips() {
            int sum = 0;
            for (int column = 0; column < columns; column++) {
                sum += flipsIn(column);
            }
            return sum;
        }

        private boolean isTrue() {
            for (int column = 0; column < columns; column++) {
                if (at(wear, column) > flipsIn(column)) {
                    return false;
                }
            }
            return withStuck(picture) == picture;
        }
    }

    /** The letters, numbered from 1, and the lines made of them. */
    private static final class Book {
        private final int[] columnsOfLetters = new int[MOST_LETTERS + 1];
        private final int[] formsOfLetters = new int[MOST_LETTERS + 1];
        private final int[] rows = new int[MOST_LINES];
        private final int[] lengths = new int[MOST_LINES];
        private final long[] forms = new long[MOST_LINES];
        private int letters;
        private int lines;

        private int addLetter(int columns, int form) {
            letters++;
            put(columnsOfLetters, letters, columns);
            put(formsOfLetters, letters, form);
            return letters;
        }

        private boolean canSpell(int letterRow) {
            if (letterRow < 1 || letterRow > LARGEST_ROW) {
                return false;
            }
            int rest = letterRow;
            for (int place = 0; place < LETTERS_IN_A_ROW && rest > 0; place++) {
                int digit = rest % 10;
                if (digit < 1 || digit > letters) {
                    return false;
                }
                rest /= 10;
            }
            return true;
        }

        private boolean hasRow(int letterRow) {
            for (int line = 0; line < lines; line++) {
                if (at(rows, line) == letterRow) {
                    return true;
                }
            }
            return false;
        }

        private int addLine(int letterRow) {
            long form = 0;
            int length = 0;
            for (int unit = 1000; unit > 0; unit /= 10) {
                int digit = letterRow / unit % 10;
                if (digit > 0) {
                    length += length > 0 ? 1 : 0;
                    form |= letterFrom(digit, length);
                    length += at(columnsOfLetters, digit);
                }
            }
            put(rows, lines, letterRow);
            put(lengths, lines, length);
            put(forms, lines, form);
            lines++;
            return lines - 1;
        }

        /** A line that goes past the widest sign is never placed; what lies there would not fit into the long. */
        private long letterFrom(int digit, int column) {
            return column < MOST_COLUMNS ? (long) at(formsOfLetters, digit) << bitOf(column, 0) : 0;
        }

        private long placed(int line, int offset) {
            return line >= 0 && line < forms.length ? forms[line] << HEIGHTS * offset : 0;
        }
    }

    /**
     * Finds the plan for one change. A way is told by the set of columns that are done: 0 as it begins, and
     * all that change at its end. From the end back, each set learns how many steps are left behind it.
     */
    private static final class Planner {
        private final int[] stepsLeft = new int[SETS_OF_COLUMNS];
        private final int[] dotsIn = new int[SETS_OF_COLUMNS];
        private final int[] plan = new int[MOST_COLUMNS];
        private long start;
        private long goal;
        private int power;
        private int changed;
        private int steps = NONE;

        private void giveUp() {
            steps = NONE;
        }

        private void begin(long start, long goal, int power) {
            this.start = start;
            this.goal = goal;
            this.power = power;
            changed = 0;
            for (int column = 0; column < MOST_COLUMNS; column++) {
                changed |= setIn(start ^ goal, column) == 0 ? 0 : 1 << column;
            }
            for (int set = 0; set < stepsLeft.length; set++) {
                stepsLeft[set] = 0;
            }
            countDots();
        }

        private void countDots() {
            for (int set = 1; set < dotsIn.length; set++) {
                int first = Integer.bitCount((set & -set) - 1);
                int dots = Integer.bitCount(setIn(start ^ goal, first));
                dotsIn[set] = at(dotsIn, set & set - 1) + dots;
            }
        }

        /** A picture matters only if it is the start in some columns and the goal in the others. */
        private void forbid(long picture) {
            int done = 0;
            for (int column = 0; column < MOST_COLUMNS; column++) {
                int set = setIn(picture, column);
                if (set != setIn(start, column)) {
                    if (set != setIn(goal, column)) {
                        return;
                    }
                    done |= 1 << column;
                }
            }
            put(stepsLeft, done, NONE);
        }

        private void choose() {
            put(stepsLeft, changed, 0);
            for (int done = changed - 1; done >= 0; done--) {
                if ((done & ~changed) == 0 && at(stepsLeft, done) != NONE) {
                    put(stepsLeft, done, fewestFrom(done));
                }
            }
            steps = at(stepsLeft, 0);
            int done = 0;
            for (int nth = 0; nth < steps; nth++) {
                int set = smallestFrom(done);
                put(plan, nth, set);
                done |= set;
            }
        }

        private int fewestFrom(int done) {
            int open = changed & ~done;
            int fewest = NONE;
            // Each turn takes the next smaller set within open, so the sets fall to 0.
            for (int set = open; set > 0; set = set - 1 & open) {
                int left = at(stepsLeft, done | set);
                if (left != NONE && (fewest == NONE || left + 1 < fewest) && canBeOneStep(set)) {
                    fewest = left + 1;
                }
            }
            return fewest;
        }

        private int smallestFrom(int done) {
            int open = changed & ~done;
            int left = at(stepsLeft, done) - 1;
            for (int set = 1; set <= open; set++) {
                if ((set & ~open) == 0 && at(stepsLeft, done | set) == left && canBeOneStep(set)) {
                    return set;
                }
            }
            return 0;
        }

        private boolean canBeOneStep(int set) {
            boolean isOneColumn = (set & set - 1) == 0;
            return isOneColumn || set > 0 && set < dotsIn.length && dotsIn[set] <= power;
        }

        private int setOf(int nth) {
            return nth < steps ? at(plan, nth) : NONE;
        }

        private int flips() {
            return steps == NONE ? NONE : Long.bitCount(start ^ goal);
        }

        private long pictureBehind(int done) {
            long picture = start;
            for (int column = 0; column < MOST_COLUMNS; column++) {
                if ((done & 1 << column) != 0) {
                    picture ^= (start ^ goal) & (long) ALL_BRIGHT << bitOf(column, 0);
                }
            }
            return picture;
        }
    }

    /** What came over the wire. */
    private static final class Wire {
        private int broken;
        private int old;
        private int taken;
        private int unshown;
        private int lastNumber = LARGEST_NUMBER;

        private boolean isNew(int number) {
            int ahead = Math.floorMod(number - lastNumber, NUMBERS);
            return ahead >= 1 && ahead <= FRAMES_AHEAD;
        }

        private void take(int number) {
            lastNumber = number;
            taken++;
        }

        private int fact(int what) {
            switch (what) {
                case 9:
                    return broken;
                case 10:
                    return old;
                case 11:
                    return taken;
                case 12:
                    return unshown;
                default:
                    return lastNumber;
            }
        }
    }

    /** The stops, and how far the bus has come. */
    private static final class Route {
        private final int[] ways = new int[MOST_STOPS];
        private final int[] linesOfStops = new int[MOST_STOPS];
        private int stops;
        private int next;
        private int turned;

        private int addStop(int way, int line) {
            put(ways, stops, way);
            put(linesOfStops, stops, line);
            stops++;
            return stops - 1;
        }

        private void roll(int turns) {
            turned += turns;
            for (int passed = 0; passed < MOST_STOPS && next != NONE && turned >= at(ways, next); passed++) {
                turned -= at(ways, next);
                next++;
                if (next >= stops) {
                    next = NONE;
                    turned = 0;
                }
            }
        }

        private int fact(int what) {
            switch (what) {
                case 14:
                    return stops;
                case 15:
                    return next;
                default:
                    return turned;
            }
        }

        private boolean isTrue() {
            return next == NONE || next == 0 || next > 0 && next < stops;
        }
    }
}
