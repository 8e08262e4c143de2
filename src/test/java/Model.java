import java.util.ArrayList;
import java.util.Arrays;
import java.util.List;

/**
 * The document said again in the plainest way, to be compared with the class: pictures are texts of dots,
 * column by column, and a plan is found by trying all ways in their order.
 */
final class Model {
    private static final int NONE = -1;
    private int width = 8;
    private int power = 10;
    private int blur = 3;
    private final List<String> letters = new ArrayList<>();
    private final List<Integer> rows = new ArrayList<>();
    private char[] shown = dark(8).toCharArray();
    private char[] stuck = "-".repeat(40).toCharArray();
    private int[] flips = new int[40];
    private int[] wear = new int[8];
    private int steps;
    private int last = NONE;
    private int broken;
    private int old;
    private int taken;
    private int unshown;
    private int lastNumber = 7;
    private final List<int[]> stops = new ArrayList<>();
    private int next;
    private int wheel;

    private static String dark(int columns) {
        return ".....".repeat(columns);
    }

    private static String text(int set) {
        StringBuilder dots = new StringBuilder();
        for (int height = 0; height < 5; height++) {
            dots.append((set >> height) % 2 == 1 ? 'o' : '.');
        }
        return dots.toString();
    }

    private static int setOf(String dots) {
        int set = 0;
        for (int height = 0; height < 5; height++) {
            set += dots.charAt(height) == 'o' ? 1 << height : 0;
        }
        return set;
    }

    private String picture() {
        return new String(shown);
    }

    private static int differ(String one, String other) {
        int count = 0;
        for (int dot = 0; dot < one.length(); dot++) {
            count += one.charAt(dot) == other.charAt(dot) ? 0 : 1;
        }
        return count;
    }

    private static String columnOf(String picture, int column) {
        return picture.substring(5 * column, 5 * column + 5);
    }

    private String form(int line) {
        String row = String.valueOf(rows.get(line));
        List<String> parts = new ArrayList<>();
        for (char digit : row.toCharArray()) {
            parts.add(letters.get(digit - '1'));
        }
        return String.join(".....", parts);
    }

    private List<String> placings(int line) {
        List<String> all = new ArrayList<>();
        int length = form(line).length() / 5;
        for (int offset = 0; offset + length <= width; offset++) {
            all.add(dark(offset) + form(line) + dark(width - length - offset));
        }
        return all;
    }

    private boolean says(String picture, int line) {
        return placings(line).contains(picture);
    }

    private String withStuck(String told) {
        char[] dots = told.toCharArray();
        for (int dot = 0; dot < dots.length; dot++) {
            dots[dot] = stuck[dot] == '-' ? dots[dot] : stuck[dot];
        }
        return new String(dots);
    }

    private int best(int line) {
        int best = NONE;
        List<String> all = placings(line);
        for (int offset = 0; offset < all.size(); offset++) {
            if (best == NONE || harm(all.get(offset)) < harm(all.get(best))) {
                best = offset;
            }
        }
        return best;
    }

    private int harm(String placed) {
        return differ(placed, withStuck(placed));
    }

    private String goal(int line) {
        return withStuck(placings(line).get(best(line)));
    }

    private int distance(String picture, int line) {
        return placings(line).stream().mapToInt(placed -> differ(picture, placed)).min().orElse(NONE);
    }

    private int readAs(String picture) {
        for (int line = 0; line < rows.size(); line++) {
            int mine = distance(picture, line);
            boolean alone = mine != NONE && mine <= blur;
            for (int other = 0; other < rows.size(); other++) {
                int its = distance(picture, other);
                alone &= other == line || its == NONE || its > mine;
            }
            if (alone) {
                return line;
            }
        }
        return NONE;
    }

    private boolean wrong(String picture, int line) {
        for (int other = 0; other < rows.size(); other++) {
            if (other != line && !says(picture(), other) && says(picture, other)) {
                return true;
            }
        }
        return false;
    }

    /** The sets of columns of the plan; null without one. */
    private List<Integer> plan(int line) {
        if (placings(line).isEmpty()) {
            return null;
        }
        for (int most = 0; most <= width; most++) {
            List<Integer> way = new ArrayList<>();
            if (find(line, picture(), goal(line), most, way)) {
                return way;
            }
        }
        return null;
    }

    private boolean find(int line, String now, String goal, int most, List<Integer> way) {
        if (now.equals(goal)) {
            return true;
        }
        if (most == 0) {
            return false;
        }
        for (int set = 1; set < 1 << width; set++) {
            String then = behind(now, goal, set);
            if (then != null && (then.equals(goal) || !wrong(then, line))) {
                way.add(set);
                if (find(line, then, goal, most - 1, way)) {
                    return true;
                }
                way.remove(way.size() - 1);
            }
        }
        return false;
    }

    private String behind(String now, String goal, int set) {
        StringBuilder then = new StringBuilder();
        for (int column = 0; column < width; column++) {
            boolean chosen = (set >> column) % 2 == 1;
            if (chosen && columnOf(now, column).equals(columnOf(goal, column))) {
                return null;
            }
            then.append(columnOf(chosen ? goal : now, column));
        }
        boolean fits = differ(now, then.toString()) <= power || Integer.bitCount(set) == 1;
        return fits ? then.toString() : null;
    }

    int width(int width) {
        need(width >= 4 && width <= 8, new IllegalArgumentException());
        int before = this.width;
        this.width = width;
        shown = dark(width).toCharArray();
        stuck = "-".repeat(5 * width).toCharArray();
        flips = new int[40];
        wear = new int[8];
        last = NONE;
        return before;
    }

    int power(int power, int blur) {
        need(power >= 1 && power <= 40 && blur >= 0 && blur <= 10, new IllegalArgumentException());
        int before = this.power;
        this.power = power;
        this.blur = blur;
        return before;
    }

    int letter(int columns, int first, int second, int third) {
        int[] sets = {first, second, third};
        boolean fine = columns >= 1 && columns <= 3;
        int sum = 0;
        for (int place = 0; place < 3; place++) {
            fine &= sets[place] >= 0 && sets[place] <= 31 && (place < columns || sets[place] == 0);
            sum |= sets[place];
        }
        need(fine && sum != 0, new IllegalArgumentException());
        need(letters.size() < 6, new IllegalStateException());
        letters.add((text(first) + text(second) + text(third)).substring(0, 5 * columns));
        return letters.size();
    }

    int list(int row) {
        String digits = String.valueOf(row);
        boolean fine = digits.length() <= 4;
        for (char digit : digits.toCharArray()) {
            fine &= digit >= '1' && digit <= '0' + letters.size();
        }
        need(fine, new IllegalArgumentException());
        need(rows.size() < 8 && !rows.contains(row), new IllegalStateException());
        rows.add(row);
        return rows.size() - 1;
    }

    int stick(int column, int height, int face) {
        need(isColumn(column) && height >= 0 && height <= 4, new IndexOutOfBoundsException());
        need(face >= NONE && face <= 1, new IllegalArgumentException());
        int before = shown[5 * column + height] == 'o' ? 1 : 0;
        stuck[5 * column + height] = face == NONE ? '-' : face == 1 ? 'o' : '.';
        shown = withStuck(picture()).toCharArray();
        return before;
    }

    int swap(int column) {
        need(isColumn(column), new IndexOutOfBoundsException());
        int before = wear[column];
        wear[column] = 0;
        Arrays.fill(shown, 5 * column, 5 * column + 5, '.');
        Arrays.fill(stuck, 5 * column, 5 * column + 5, '-');
        return before;
    }

    int show(int line) {
        need(isLine(line), new IndexOutOfBoundsException());
        List<Integer> plan = plan(line);
        if (plan == null) {
            return NONE;
        }
        String goal = goal(line);
        for (int set : plan) {
            steps++;
            for (int dot = 0; dot < 5 * width; dot++) {
                if ((set >> dot / 5) % 2 == 1 && shown[dot] != goal.charAt(dot)) {
                    shown[dot] = goal.charAt(dot);
                    flips[dot]++;
                    wear[dot / 5]++;
                }
            }
        }
        last = line;
        return plan.size();
    }

    int frame(int number, int line, int check) {
        need(number >= 0 && number <= 7 && line >= 0 && line <= 7 && check >= 0 && check <= 10,
                new IllegalArgumentException());
        if (check != check(number, line)) {
            broken++;
            return 0;
        }
        boolean isNew = false;
        for (int more = 1; more <= 4; more++) {
            isNew |= number == (lastNumber + more) % 8;
        }
        if (!isNew) {
            old++;
            return 1;
        }
        need(isLine(line), new IllegalStateException());
        lastNumber = number;
        taken++;
        if (show(line) == NONE) {
            unshown++;
            return 3;
        }
        return 2;
    }

    int stop(int way, int line) {
        need(way >= 1 && way <= 99, new IllegalArgumentException());
        need(isLine(line), new IndexOutOfBoundsException());
        need(stops.size() < 6 && next != NONE, new IllegalStateException());
        stops.add(new int[] {way, line});
        return stops.size() - 1;
    }

    int wheel(int turns) {
        need(turns >= 1 && turns <= 300, new IllegalArgumentException());
        need(!stops.isEmpty() && next != NONE, new IllegalStateException());
        int ahead = next;
        for (int turn = 0; turn < turns && next != NONE; turn++) {
            wheel++;
            if (wheel == stops.get(next)[0]) {
                wheel = 0;
                next = next + 1 == stops.size() ? NONE : next + 1;
            }
        }
        if (next != NONE && next != ahead) {
            show(stops.get(next)[1]);
        }
        return next;
    }

    int again() {
        next = 0;
        wheel = 0;
        return stops.size();
    }

    int dot(int column, int height, int what) {
        need(isColumn(column) && height >= 0 && height <= 4, new IndexOutOfBoundsException());
        need(what >= 0 && what <= 2, new IllegalArgumentException());
        int dot = 5 * column + height;
        int stuckAt = stuck[dot] == '-' ? NONE : stuck[dot] == 'o' ? 1 : 0;
        return what == 0 ? shown[dot] == 'o' ? 1 : 0 : what == 1 ? flips[dot] : stuckAt;
    }

    int column(int column, int what) {
        need(isColumn(column), new IndexOutOfBoundsException());
        need(what >= 0 && what <= 2, new IllegalArgumentException());
        int stuckDots = 0;
        for (int height = 0; height < 5; height++) {
            stuckDots += stuck[5 * column + height] == '-' ? 0 : 1;
        }
        return what == 0 ? setOf(columnOf(picture(), column)) : what == 1 ? wear[column] : stuckDots;
    }

    int ofLine(int line, int what) {
        need(isLine(line), new IndexOutOfBoundsException());
        need(what >= 0 && what <= 7, new IllegalArgumentException());
        boolean canBe = !placings(line).isEmpty();
        switch (what) {
            case 0:
                return rows.get(line);
            case 1:
                return form(line).length() / 5;
            case 2:
                return best(line);
            case 3:
                return canBe ? harm(placings(line).get(best(line))) : NONE;
            case 4:
                return distance(picture(), line);
            case 5:
                return says(picture(), line) ? 1 : 0;
            case 6:
                return plan(line) == null ? NONE : plan(line).size();
            default:
                return plan(line) == null ? NONE : differ(picture(), goal(line));
        }
    }

    int step(int line, int nth) {
        need(isLine(line), new IndexOutOfBoundsException());
        need(nth >= 0, new IllegalArgumentException());
        List<Integer> plan = plan(line);
        return plan == null || nth >= plan.size() ? NONE : plan.get(nth);
    }

    String row(int height) {
        need(height >= 0 && height <= 4, new IndexOutOfBoundsException());
        StringBuilder dots = new StringBuilder();
        for (int column = 0; column < width; column++) {
            dots.append(shown[5 * column + height]);
        }
        return dots.toString();
    }

    int sign(int what) {
        need(what >= 0 && what <= 17, new IllegalArgumentException());
        int stuckDots = 0;
        for (char dot : stuck) {
            stuckDots += dot == '-' ? 0 : 1;
        }
        int[] all = {width, power, blur, letters.size(), rows.size(), readAs(picture()), stuckDots,
            Arrays.stream(flips).sum(), steps, broken, old, taken, unshown, lastNumber, stops.size(), next, wheel,
            last};
        return all[what];
    }

    int check(int number, int line) {
        need(number >= 0 && number <= 7 && line >= 0 && line <= 7, new IllegalArgumentException());
        return (3 * number + 5 * line + 1) % 11;
    }

    int apart(int one, int other) {
        need(isLine(one) && isLine(other), new IndexOutOfBoundsException());
        int least = NONE;
        for (String mine : placings(one)) {
            for (String its : placings(other)) {
                least = least == NONE ? differ(mine, its) : Math.min(least, differ(mine, its));
            }
        }
        return least;
    }

    int wouldRead(int line) {
        need(isLine(line), new IndexOutOfBoundsException());
        return placings(line).isEmpty() ? NONE : readAs(goal(line));
    }

    long digest() {
        long sum = 3769;
        for (int what = 0; what <= 17; what++) {
            sum = sum * 31 + sign(what);
        }
        for (int column = 0; column < width; column++) {
            for (int what = 0; what <= 2; what++) {
                sum = sum * 31 + column(column, what);
            }
        }
        for (int line = 0; line < rows.size(); line++) {
            List<Integer> plan = plan(line);
            int count = plan == null ? NONE : plan.size();
            for (int what = 1; what <= 5; what++) {
                sum = sum * 31 + ofLine(line, what);
            }
            sum = sum * 31 + count;
            sum = sum * 31 + (plan == null ? NONE : differ(picture(), goal(line)));
            sum = sum * 31 + (count > 0 ? plan.get(0) : NONE);
            sum = sum * 31 + (count > 1 ? plan.get(1) : NONE);
            sum = sum * 31 + wouldRead(line);
        }
        return sum * 31 + 1;
    }

    private boolean isColumn(int column) {
        return column >= 0 && column < width;
    }

    private boolean isLine(int line) {
        return line >= 0 && line < rows.size();
    }

    private static void need(boolean fine, RuntimeException otherwise) {
        if (!fine) {
            throw otherwise;
        }
    }
}
