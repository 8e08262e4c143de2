import java.lang.reflect.Constructor;
import java.lang.reflect.Field;
import java.lang.reflect.Method;
import java.lang.reflect.Modifier;
import java.util.Set;
import java.util.TreeSet;

/** Rule 1 of the language: the document's face with its exceptions, and nothing else that is not private. */
public final class FaceTest {
    private static final Set<String> FACE = new TreeSet<>(Set.of(
            "int again()",
            "int apart(int,int) throws IndexOutOfBoundsException",
            "int check(int,int) throws IllegalArgumentException",
            "int column(int,int) throws IndexOutOfBoundsException IllegalArgumentException",
            "long digest()",
            "int dot(int,int,int) throws IndexOutOfBoundsException IllegalArgumentException",
            "int frame(int,int,int) throws IllegalArgumentException IllegalStateException",
            "boolean isSound()",
            "int letter(int,int,int,int) throws IllegalArgumentException IllegalStateException",
            "int list(int) throws IllegalArgumentException IllegalStateException",
            "int ofLine(int,int) throws IndexOutOfBoundsException IllegalArgumentException",
            "int power(int,int) throws IllegalArgumentException",
            "java.lang.String row(int) throws IndexOutOfBoundsException",
            "int show(int) throws IndexOutOfBoundsException",
            "int sign(int) throws IllegalArgumentException",
            "int step(int,int) throws IndexOutOfBoundsException IllegalArgumentException",
            "int stick(int,int,int) throws IndexOutOfBoundsException IllegalArgumentException",
            "int stop(int,int) throws IllegalArgumentException IndexOutOfBoundsException IllegalStateException",
            "int swap(int) throws IndexOutOfBoundsException",
            "int wheel(int) throws IllegalArgumentException IllegalStateException",
            "int width(int) throws IllegalArgumentException",
            "int wouldRead(int) throws IndexOutOfBoundsException"));

    public static void main(String[] args) {
        Set<String> found = new TreeSet<>();
        Set<String> names = new TreeSet<>();
        for (Method method : Flapline.class.getDeclaredMethods()) {
            if (Modifier.isPublic(method.getModifiers())) {
                found.add(told(method));
                names.add(method.getName());
            } else {
                Expect.yes("private: " + method, Modifier.isPrivate(method.getModifiers()));
            }
        }
        Expect.same("the face", FACE.toString(), found.toString());
        Expect.yes("final", Modifier.isFinal(Flapline.class.getModifiers()));
        Expect.yes("public", Modifier.isPublic(Flapline.class.getModifiers()));
        Constructor<?>[] made = Flapline.class.getDeclaredConstructors();
        Expect.same("one constructor", 1, made.length);
        Expect.yes("a public one", Modifier.isPublic(made[0].getModifiers()) && made[0].getParameterCount() == 0);
        for (Field field : Flapline.class.getDeclaredFields()) {
            Expect.yes("private: " + field, Modifier.isPrivate(field.getModifiers()));
        }
        noNameTwice(names);
        Expect.finish();
    }

    private static String told(Method method) {
        StringBuilder text = new StringBuilder(method.getReturnType().getName());
        text.append(' ').append(method.getName()).append('(');
        String between = "";
        for (Class<?> type : method.getParameterTypes()) {
            text.append(between).append(type.getName());
            between = ",";
        }
        text.append(')');
        between = " throws ";
        for (Class<?> thrown : method.getExceptionTypes()) {
            text.append(between).append(thrown.getSimpleName());
            between = " ";
        }
        return text.toString();
    }

    private static void noNameTwice(Set<String> names) {
        for (Method method : Flapline.class.getDeclaredMethods()) {
            boolean isPublic = Modifier.isPublic(method.getModifiers());
            Expect.yes("a name of its own: " + method, isPublic || !names.contains(method.getName()));
        }
        for (Class<?> inside : Flapline.class.getDeclaredClasses()) {
            Expect.yes("static: " + inside, Modifier.isStatic(inside.getModifiers()));
            for (Method method : inside.getDeclaredMethods()) {
                Expect.yes("a name of its own: " + method, !names.contains(method.getName()));
            }
        }
    }
}
