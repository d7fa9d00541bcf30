import java.io.File;
import java.io.IOException;
import java.lang.reflect.Method;
import java.lang.reflect.Modifier;
import java.nio.file.Files;
import java.nio.file.Path;
import java.util.List;

/** What README.md says: its example, and that it names each call, class and test. */
public final class ReadmeTest {
    private static final Path README = Path.of("README.md");
    private static final Path TESTS = Path.of("src", "test", "java");

    public static void main(String[] args) throws IOException {
        Due due = new Due("ReadmeTest");
        example(due);
        exampleIsThatOfReadme(due);
        namesAll(due);
        due.end();
    }

    /** The lines of the example stand here as they stand there. */
    private static void example(Due due) {
        LowForge forge = new LowForge();
        for (char letter : "Ia:U4;Rb:U4;Oc:U;c<=b;?a{b<=+(b,1);}".toCharArray()) {
            forge.text(letter);            // or up to eight characters in one long, the highest byte first
        }
        int signals = forge.compile();     // 3: a, b and c are ground signals 0, 1 and 2
        forge.set(0, 5);                   // the input a
        forge.clock(3);
        int b = forge.value(1);            // 3
        double busy = forge.activity(1);   // how much of the clocks b had changed before: 2.0 / 3.0
        due.same("signals", signals, 3);
        due.same("b", b, 3);
        due.same("busy", busy, 2.0 / 3.0);
    }

    private static void exampleIsThatOfReadme(Due due) throws IOException {
        List<String> own = Files.readAllLines(TESTS.resolve("ReadmeTest.java"));
        boolean inside = false;
        int lines = 0;
        for (String line : Files.readAllLines(README)) {
            if (line.startsWith("```")) {
                inside = line.equals("```java");
            } else if (inside) {
                lines++;
                due.same("run here: " + line, own.contains("        " + line) ? 1 : 0, 1);
            }
        }
        due.same("the example has lines", lines > 0 ? 1 : 0, 1);
    }

    private static void namesAll(Due due) throws IOException {
        String readme = Files.readString(README);
        for (Method method : LowForge.class.getDeclaredMethods()) {
            if (Modifier.isPublic(method.getModifiers())) {
                names(due, readme, "| `" + method.getName() + "(");
            }
        }
        for (Class<?> inside : LowForge.class.getDeclaredClasses()) {
            names(due, readme, "`" + inside.getSimpleName() + "`");
        }
        for (File test : TESTS.toFile().listFiles()) {
            names(due, readme, "`" + test.getName().replace(".java", "") + "`");
        }
    }

    private static void names(Due due, String readme, String what) {
        due.same("README.md names " + what, readme.contains(what) ? 1 : 0, 1);
    }
}
