/** Long mixed runs of calls on the class and on the model; each answer must be the same. */
public final class ModelTest {
    private static final int OBJECTS = 250;
    private static final int CALLS = 120;
    private static final int[] SETS = {1, 1, 2, 3, 16, 31, 31, 0, 7};
    private static long seed = 20250721;
    private static int plansFound;
    private static int plansMissing;
    private static int longPlans;

    private interface Answer {
        Object get();
    }

    public static void main(String[] args) {
        for (int object = 0; object < OBJECTS; object++) {
            oneRun(object);
        }
        Expect.yes("many plans of three and more steps", longPlans > 200);
        Expect.yes("many lines cannot be shown", plansMissing > 200);
        Expect.yes("many lines can be shown", plansFound > 500);
        Expect.finish();
    }

    /** Numbers from 0 to bound - 1, the same ones in each run. */
    private static int pick(int bound) {
        seed = seed * 6364136223846793005L + 1442695040888963407L;
        return (int) ((seed >>> 33) % bound);
    }

    private static int pick(int from, int to) {
        return from + pick(to - from + 1);
    }

    private static String told(Answer answer) {
        try {
            return String.valueOf(answer.get());
        } catch (RuntimeException thrown) {
            return thrown.getClass().getSimpleName();
        }
    }

    private static void both(String call, Answer model, Answer sign) {
        Expect.same(call, told(model), told(sign));
    }

    private static void oneRun(int object) {
        Flapline sign = new Flapline();
        Model model = new Model();
        if (pick(2) == 0) {
            int width = pick(4, 8);
            both("width", () -> model.width(width), () -> sign.width(width));
        }
        int letters = pick(1, 4);
        for (int letter = 0; letter < letters; letter++) {
            tellLetter(object, model, sign);
        }
        int lines = pick(2, 12);
        for (int line = 0; line < lines; line++) {
            listLine(object, letters, model, sign);
        }
        int power = pick(3) == 0 ? pick(1, 40) : pick(1, 8);
        both("power", () -> model.power(power, 3), () -> sign.power(power, 3));
        for (int call = 0; call < CALLS; call++) {
            oneCall("object " + object + " call " + call + ": ", pick(24), model, sign);
        }
        both("object " + object + " digest", model::digest, sign::digest);
        Expect.yes("object " + object + " is sound", sign.isSound());
    }

    private static void tellLetter(int object, Model model, Flapline sign) {
        int columns = pick(5) == 0 ? 3 : pick(1, 2);
        int first = SETS[pick(SETS.length)];
        int second = columns > 1 ? SETS[pick(SETS.length)] : 0;
        int third = columns > 2 ? SETS[pick(SETS.length)] : 0;
        both("object " + object + " letter", () -> model.letter(columns, first, second, third),
                () -> sign.letter(columns, first, second, third));
    }

    private static void listLine(int object, int letters, Model model, Flapline sign) {
        int digits = pick(1, 4);
        int row = 0;
        for (int digit = 0; digit < digits; digit++) {
            row = 10 * row + pick(1, letters);
        }
        int told = row;
        both("object " + object + " list " + row, () -> model.list(told), () -> sign.list(told));
    }

    private static void oneCall(String where, int kind, Model model, Flapline sign) {
        if (kind < 7) {
            showing(where, model, sign);
        } else if (kind < 12) {
            dots(where, kind, model, sign);
        } else if (kind < 16) {
            wireAndBus(where, kind, model, sign);
        } else {
            asking(where, kind, model, sign);
        }
    }

    private static void showing(String where, Model model, Flapline sign) {
        int line = pick(-1, model.sign(4));
        int nth = pick(-1, 4);
        both(where + "step " + line + ", " + nth, () -> model.step(line, nth), () -> sign.step(line, nth));
        String steps = told(() -> model.show(line));
        Expect.same(where + "show " + line, steps, told(() -> sign.show(line)));
        plansMissing += steps.equals("-1") ? 1 : 0;
        plansFound += steps.length() == 1 ? 1 : 0;
        longPlans += steps.length() == 1 && steps.charAt(0) >= '3' ? 1 : 0;
    }

    private static void dots(String where, int kind, Model model, Flapline sign) {
        int column = pick(-1, 8);
        int height = pick(-1, 5);
        int face = pick(-2, 2);
        if (kind == 7) {
            both(where + "swap", () -> model.swap(column), () -> sign.swap(column));
        } else if (kind == 8) {
            int power = pick(6) == 0 ? pick(0, 41) : pick(1, 10);
            int blur = pick(-1, 11);
            both(where + "power", () -> model.power(power, blur), () -> sign.power(power, blur));
        } else if (kind == 9 && pick(6) == 0) {
            int width = pick(3, 9);
            both(where + "width", () -> model.width(width), () -> sign.width(width));
        } else {
            both(where + "stick", () -> model.stick(column, height, face), () -> sign.stick(column, height, face));
        }
    }

    private static void wireAndBus(String where, int kind, Model model, Flapline sign) {
        int number = pick(-1, 8);
        int line = pick(8) == 0 ? pick(-1, 8) : pick(3);
        int way = pick(6) == 0 ? pick(-1, 101) : pick(1, 12);
        if (kind < 14) {
            boolean right = pick(4) > 0 && number >= 0 && number < 8 && line >= 0 && line < 8;
            int check = right ? model.check(number, line) : pick(-1, 11);
            both(where + "frame", () -> model.frame(number, line, check), () -> sign.frame(number, line, check));
        } else if (pick(6) == 0) {
            both(where + "again", model::again, sign::again);
        } else if (kind == 14) {
            both(where + "stop", () -> model.stop(way, line), () -> sign.stop(way, line));
        } else {
            int turns = pick(8) == 0 ? pick(-1, 302) : pick(1, 15);
            both(where + "wheel", () -> model.wheel(turns), () -> sign.wheel(turns));
        }
    }

    private static void asking(String where, int kind, Model model, Flapline sign) {
        int column = pick(-1, 8);
        int line = pick(-1, model.sign(4));
        int other = pick(-1, model.sign(4));
        int what = pick(-1, 8);
        if (kind == 16) {
            both(where + "dot", () -> model.dot(column, other, what), () -> sign.dot(column, other, what));
        } else if (kind == 17) {
            int of = pick(-1, 3);
            both(where + "column", () -> model.column(column, of), () -> sign.column(column, of));
        } else if (kind == 18) {
            both(where + "ofLine", () -> model.ofLine(line, what), () -> sign.ofLine(line, what));
        } else if (kind == 19) {
            both(where + "row", () -> model.row(what), () -> sign.row(what));
        } else if (kind == 20) {
            int of = pick(-1, 18);
            both(where + "sign", () -> model.sign(of), () -> sign.sign(of));
        } else if (kind == 21) {
            both(where + "apart", () -> model.apart(line, other), () -> sign.apart(line, other));
        } else if (kind == 22) {
            both(where + "wouldRead", () -> model.wouldRead(line), () -> sign.wouldRead(line));
        } else {
            both(where + "check", () -> model.check(column, what), () -> sign.check(column, what));
            both(where + "digest", model::digest, sign::digest);
        }
    }
}
