import java.lang.reflect.Constructor;
import java.lang.reflect.Field;
import java.lang.reflect.Method;
import java.lang.reflect.Modifier;
import java.util.Set;
import java.util.TreeSet;

/** Rule 1 of the language: the document's face, and no other member that is not private. */
public final class FaceTest {
    private static final Set<String> FACE = new TreeSet<>(Set.of(
            "int again()",
            "int apart(int,int)",
            "int check(int,int)",
            "int column(int,int)",
            "long digest()",
            "int dot(int,int,int)",
            "int frame(int,int,int)",
            "boolean isSound()",
            "int letter(int,int,int,int)",
            "int list(int)",
            "int ofLine(int,int)",
            "int power(int,int)",
            "java.lang.String row(int)",
            "int show(int)",
            "int sign(int)",
            "int step(int,int)",
            "int stick(int,int,int)",
            "int stop(int,int)",
            "int swap(int)",
            "int wheel(int)",
            "int width(int)",
            "int wouldRead(int)"));

    public static void main(String[] args) {
        Set<String> found = new TreeSet<>();
        Set<String> names = new TreeSet<>();
        for (Method method : Flapline.class.getDeclaredMethods()) {
            if (Modifier.isPublic(method.getModifiers())) {
                found.add(told(method));
                names.add(method.getName());
            } else {
                Expect.yes("private: " + method, Modifier.isPrivate(method.getModifiers()));
            }
        }
        Expect.same("the face", FACE.toString(), found.toString());
        Expect.yes("final", Modifier.isFinal(Flapline.class.getModifiers()));
        Expect.yes("public", Modifier.isPublic(Flapline.class.getModifiers()));
        Constructor<?>[] made = Flapline.class.getDeclaredConstructors();
        Expect.same("one constructor", 1, made.length);
        Expect.yes("a public one", Modifier.isPublic(made[0].getModifiers()) && made[0].getParameterCount() == 0);
        for (Field field : Flapline.class.getDeclaredFields()) {
            Expect.yes("private: " + field, Modifier.isPrivate(field.getModifiers()));
        }
        noNameTwice(names);
        Expect.finish();
    }

    private static String told(Method method) {
        StringBuilder text = new StringBuilder(method.getReturnType().getName());
        text.append(' ').append(method.getName()).append('(');
        String between = "";
        for (Class<?> type : method.getParameterTypes()) {
            text.append(between).append(type.getName());
            between = ",";
        }
        return text.append(')').toString();
    }

    private static void noNameTwice(Set<String> names) {
        for (Method method : Flapline.class.getDeclaredMethods()) {
            boolean isPublic = Modifier.isPublic(method.getModifiers());
            Expect.yes("a name of its own: " + method, isPublic || !names.contains(method.getName()));
        }
        for (Class<?> inside : Flapline.class.getDeclaredClasses()) {
            Expect.yes("static: " + inside, Modifier.isStatic(inside.getModifiers()));
            for (Method method : inside.getDeclaredMethods()) {
                Expect.yes("a name of its own: " + method, !names.contains(method.getName()));
            }
        }
    }
}
