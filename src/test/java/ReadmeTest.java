import java.io.IOException;
import java.lang.reflect.Method;
import java.lang.reflect.Modifier;
import java.nio.file.Files;
import java.nio.file.Path;
import java.util.List;
import java.util.stream.Collectors;
import java.util.stream.Stream;

/** README.md tells each call of the face and each test as they stand, and its example answers what it says. */
public final class ReadmeTest {
    private static final Path README = Path.of("README.md");
    private static final Path TESTS = Path.of("src", "test", "java");

    public static void main(String[] args) throws IOException {
        String readme = Files.readString(README);
        eachCallIsTold(readme);
        eachTestIsTold(readme);
        noOtherTestIsTold(readme);
        theExample();
        Expect.finish();
    }

    private static void eachCallIsTold(String readme) {
        for (Method method : Flapline.class.getDeclaredMethods()) {
            if (Modifier.isPublic(method.getModifiers())) {
                Expect.yes("README tells " + method.getName(), readme.contains("| `" + method.getName() + "("));
            }
        }
    }

    private static void eachTestIsTold(String readme) throws IOException {
        for (String name : testNames()) {
            Expect.yes("README tells " + name, readme.contains("| `" + name + "` |"));
        }
    }

    private static void noOtherTestIsTold(String readme) throws IOException {
        List<String> names = testNames();
        for (String line : readme.split("\n")) {
            if (line.startsWith("| `") && line.contains("Test` |")) {
                String told = line.substring(3, line.indexOf('`', 3));
                Expect.yes(told + " is there", names.contains(told));
            }
        }
    }

    private static List<String> testNames() throws IOException {
        try (Stream<Path> files = Files.list(TESTS)) {
            return files.map(file -> file.getFileName().toString())
                    .filter(name -> name.endsWith("Test.java"))
                    .map(name -> name.substring(0, name.length() - ".java".length()))
                    .collect(Collectors.toList());
        }
    }

    /** The example of README.md, call by call. */
    private static void theExample() {
        Flapline sign = new Flapline();
        Expect.same("letter", 1, sign.letter(1, 31, 0, 0));
        Expect.same("list 11", 0, sign.list(11));
        Expect.same("list 111", 1, sign.list(111));
        Expect.same("show", 1, sign.show(0));
        Expect.same("row", "o.o.....", sign.row(0));
        Expect.same("read", 0, sign.sign(5));
        Expect.same("frame", 2, sign.frame(0, 1, sign.check(0, 1)));
        Expect.same("row behind the frame", "o.o.o...", sign.row(0));
        Expect.same("stop", 0, sign.stop(10, 1));
        Expect.same("next stop", 1, sign.stop(20, 0));
        Expect.same("wheel", 1, sign.wheel(12));
        Expect.same("row behind the wheel", "o.o.....", sign.row(0));
        Expect.same("turns", 2, sign.sign(16));
    }
}
