import java.lang.reflect.Field;

/**
 * Promise 22: isSound() looks, and does not only say yes. No run of calls brings a sign to be unsound, so it is
 * broken from inside here; the names of the fields are those of the class as it stands.
 */
public final class SoundTest {
    private static final long FIRST_DOT = 1;

    public static void main(String[] args) throws ReflectiveOperationException {
        stuckDotsShowThat();
        wearIsNoMoreThanFlips();
        nextIsAStop();
        nextWithoutAStop();
        Expect.finish();
    }

    /** One line is shown, two dots are stuck, and the bus is on the way to the second of two stops. */
    private static Flapline busy() {
        Flapline sign = Signs.with(Signs.letters(31, 7), 1, 12);
        sign.stick(0, 0, 1);
        sign.stick(5, 4, 0);
        sign.show(0);
        sign.stop(2, 0);
        sign.stop(9, 1);
        sign.wheel(3);
        return sign;
    }

    private static void stuckDotsShowThat() throws ReflectiveOperationException {
        Flapline sign = busy();
        Expect.yes("22: busy", sign.isSound());
        Object board = inside(sign, "board");
        Field picture = field(board, "picture");
        long shown = picture.getLong(board);
        picture.setLong(board, shown & ~FIRST_DOT);
        Expect.yes("22: one that is stuck at 1 shows 0", !sign.isSound());
        picture.setLong(board, shown | FIRST_DOT << 29);
        Expect.yes("22: one that is stuck at 0 shows 1", !sign.isSound());
        picture.setLong(board, shown | FIRST_DOT << 28);
        Expect.yes("22: one that is free may show 1", sign.isSound());
        picture.setLong(board, shown);
        Expect.yes("22: as it was", sign.isSound());
    }

    private static void wearIsNoMoreThanFlips() throws ReflectiveOperationException {
        for (int column = 0; column < 8; column++) {
            Flapline sign = busy();
            Object board = inside(sign, "board");
            int[] wear = (int[]) field(board, "wear").get(board);
            int flips = 0;
            for (int height = 0; height < 5; height++) {
                flips += sign.dot(column, height, 1);
            }
            wear[column] = flips;
            Expect.yes("22: as much wear as flips of " + column, sign.isSound());
            wear[column] = flips + 1;
            Expect.yes("22: more wear than flips of " + column, !sign.isSound());
        }
    }

    private static void nextIsAStop() throws ReflectiveOperationException {
        int[] nexts = {-2, Expect.NONE, 0, 1, 2, 6};
        boolean[] due = {false, true, true, true, false, false};
        for (int turn = 0; turn < nexts.length; turn++) {
            Flapline sign = busy();
            setNext(sign, nexts[turn]);
            Expect.same("22: next " + nexts[turn] + " of two", due[turn] ? 1 : 0, sign.isSound() ? 1 : 0);
        }
    }

    private static void nextWithoutAStop() throws ReflectiveOperationException {
        Flapline sign = new Flapline();
        Expect.yes("22: next 0 of none", sign.isSound());
        long sound = sign.digest();
        setNext(sign, 1);
        Expect.yes("22: next 1 of none", !sign.isSound());
        long dueByNext = 1;
        for (int number = 0; number < 27; number++) {
            dueByNext *= 31;
        }
        Expect.same("23: the digest has 0 for it", sound + dueByNext - 1, sign.digest());
    }

    private static void setNext(Flapline sign, int next) throws ReflectiveOperationException {
        Object route = inside(sign, "route");
        field(route, "next").setInt(route, next);
    }

    private static Object inside(Flapline sign, String name) throws ReflectiveOperationException {
        return field(sign, name).get(sign);
    }

    private static Field field(Object owner, String name) throws NoSuchFieldException {
        Field field = owner.getClass().getDeclaredField(name);
        field.setAccessible(true);
        return field;
    }
}
