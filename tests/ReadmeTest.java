import java.io.ByteArrayOutputStream;
import java.io.IOException;
import java.io.PrintStream;
import java.lang.reflect.Method;
import java.lang.reflect.Modifier;
import java.net.URL;
import java.net.URLClassLoader;
import java.nio.file.Files;
import java.nio.file.Path;
import java.util.ArrayList;
import java.util.List;
import java.util.regex.Matcher;
import java.util.regex.Pattern;
import javax.tools.ToolProvider;

/** The example in README.md prints what its comments say, and its table has each call of the class. */
public final class ReadmeTest {
    private static int wrong;

    private ReadmeTest() {
    }

    public static void main(String[] args) throws IOException, ReflectiveOperationException {
        String readme = Files.readString(Path.of("README.md"));
        String example = between(readme, "```java\n", "```");
        List<String> due = new ArrayList<>();
        Matcher shown = Pattern.compile("show\\(.*\\); +// (-?\\d+)").matcher(example);
        while (shown.find()) {
            due.add(shown.group(1));
        }
        holds(due.size() > 15, "only " + due.size() + " answers are told");
        List<String> got = printedBy(example);
        holds(got.equals(due), "the example prints " + got + ", due is " + due);
        table(between(readme, "| --- | --- |\n", "\n\n"));
        System.out.println("ReadmeTest: " + due.size() + " answers, " + wrong + " things wrong");
        System.exit(wrong == 0 ? 0 : 1);
    }

    private static void holds(boolean good, String what) {
        if (!good) {
            wrong++;
            System.out.println("README.md: " + what);
        }
    }

    private static String between(String text, String first, String last) {
        int from = text.indexOf(first);
        int to = text.indexOf(last, from + first.length());
        holds(from >= 0 && to > from, "nothing between " + first + " and " + last);
        return from >= 0 && to > from ? text.substring(from + first.length(), to) : "";
    }

    private static List<String> printedBy(String example) throws IOException, ReflectiveOperationException {
        Path folder = Files.createTempDirectory("readme");
        Path source = folder.resolve("Example.java");
        Path compiled = folder.resolve("Example.class");
        PrintStream before = System.out;
        ByteArrayOutputStream printed = new ByteArrayOutputStream();
        try {
            Files.writeString(source, example);
            int failed = ToolProvider.getSystemJavaCompiler().run(null, null, null, "-classpath",
                System.getProperty("java.class.path"), "-d", folder.toString(), source.toString());
            holds(failed == 0, "the example does not compile");
            if (failed == 0) {
                System.setOut(new PrintStream(printed, true));
                runIn(folder);
            }
        } finally {
            System.setOut(before);
            Files.deleteIfExists(source);
            Files.deleteIfExists(compiled);
            Files.delete(folder);
        }
        return List.of(printed.toString().trim().split("\\s+"));
    }

    private static void runIn(Path folder) throws IOException, ReflectiveOperationException {
        try (URLClassLoader loader = new URLClassLoader(new URL[] {folder.toUri().toURL()})) {
            loader.loadClass("Example").getMethod("main", String[].class).invoke(null, (Object) new String[0]);
        }
    }

    private static void table(String rows) {
        int calls = 0;
        for (Method m : PoolHouse.class.getDeclaredMethods()) {
            if (Modifier.isPublic(m.getModifiers())) {
                calls++;
                holds(rows.split("`" + m.getName() + "`", -1).length == 2, m.getName() + " stands not just once");
            }
        }
        holds(rows.split("`").length / 2 == calls, "the table has other calls, too");
    }
}
