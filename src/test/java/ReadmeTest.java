import java.io.ByteArrayOutputStream;
import java.io.IOException;
import java.io.PrintStream;
import java.lang.reflect.Method;
import java.lang.reflect.Modifier;
import java.nio.file.Files;
import java.nio.file.Path;
import java.util.ArrayList;
import java.util.List;
import java.util.stream.Stream;

/** README.md shows the example as it is and what it prints, and names each method and each test. */
public final class ReadmeTest {
    public static void main(String[] args) throws IOException {
        List<String> page = Files.readAllLines(Path.of("README.md"));
        isShown("the example", Files.readAllLines(Path.of("src/example/java/Example.java")), page);
        isShown("what the example prints", printed(), page);
        String text = String.join("\n", page);
        for (Method method : BlackoutStart.class.getDeclaredMethods()) {
            if (Modifier.isPublic(method.getModifiers())) {
                Check.same(method.getName() + " is named", true, text.contains("`" + told(method)));
            }
        }
        try (Stream<Path> files = Files.list(Path.of("src/test/java"))) {
            for (Path file : files.filter(f -> f.toString().endsWith("Test.java")).toList()) {
                String name = file.getFileName().toString().replace(".java", "");
                Check.same(name + " is named", true, text.contains("`" + name + "`"));
            }
        }
        Check.end("ReadmeTest");
    }

    /** The name, and whether there is something in the brackets. */
    private static String told(Method method) {
        return method.getName() + (method.getParameterCount() == 0 ? "()`" : "(");
    }

    private static List<String> printed() {
        PrintStream before = System.out;
        ByteArrayOutputStream bytes = new ByteArrayOutputStream();
        System.setOut(new PrintStream(bytes, true));
        try {
            Example.main(new String[0]);
        } finally {
            System.setOut(before);
        }
        return bytes.toString().lines().toList();
    }

    /** Each line stands on the page, one behind the other, four blanks from the left. */
    private static void isShown(String what, List<String> lines, List<String> page) {
        List<String> shown = new ArrayList<>();
        for (String line : lines) {
            shown.add(line.isEmpty() ? "" : "    " + line);
        }
        Check.same(what + " has lines", true, !lines.isEmpty());
        Check.same(what + " is shown", true, java.util.Collections.indexOfSubList(page, shown) >= 0);
    }
}
