import java.io.File;
import java.io.IOException;
import java.lang.reflect.InvocationTargetException;
import java.lang.reflect.Method;
import java.lang.reflect.Modifier;
import java.net.URL;
import java.net.URLClassLoader;
import java.nio.file.Files;
import java.nio.file.Path;
import java.util.ArrayList;
import java.util.List;
import java.util.TreeSet;
import java.util.regex.Matcher;
import java.util.regex.Pattern;
import javax.tools.JavaCompiler;
import javax.tools.ToolProvider;

/** The calls that README.md shows are compiled and run as they stand there. */
public final class ReadmeTest {
    private static final Path README = Path.of("README.md");
    private static final Pattern BLOCK = Pattern.compile("(?ms)^```java\\n(.*?)^```$");
    private static final Pattern ANSWERED =
        Pattern.compile("(x\\.(\\w+)\\(.*?\\));\\s+// (-?\\d+)(:.*)?");
    private static final int MOST_CALLS = 512;
    private static final TreeSet<String> shown = new TreeSet<>();
    private static int wrong = 0;

    /** The compiled page calls this for every answer that it shows. */
    public static void due(String call, long got, long want) {
        if (got != want) {
            tell(call + " answered " + got + ", the page says " + want);
        }
    }

    public static void main(String[] args) throws Exception {
        List<String> code = code();
        everyCallIsShown();
        if (wrong == 0) {
            run(code);
        }
        System.out.println(wrong == 0 ? "README.md is so" : wrong + " things are not so");
        if (wrong != 0) {
            System.exit(1);
        }
    }

    private static void tell(String what) {
        wrong++;
        System.out.println("README.md: " + what);
    }

    private static List<String> code() throws IOException {
        List<String> code = new ArrayList<>();
        int calls = 0;
        Matcher block = BLOCK.matcher(Files.readString(README));
        while (block.find()) {
            for (String line : block.group(1).split("\n")) {
                Matcher answered = ANSWERED.matcher(line);
                if (answered.matches()) {
                    shown.add(answered.group(2));
                    calls++;
                    code.add("ReadmeTest.due(\"" + answered.group(1) + "\", " + answered.group(1)
                        + ", " + answered.group(3) + "L);");
                } else if (line.startsWith("x.")) {
                    tell("no answer stands behind " + line);
                } else {
                    // A call in a loop shows no answer, but is shown.
                    Matcher call = Pattern.compile("\\bx\\.(\\w+)\\(").matcher(line);
                    while (call.find()) {
                        shown.add(call.group(1));
                    }
                    code.add(line);
                }
            }
        }
        if (calls == 0 || calls >= MOST_CALLS) {
            tell(calls + " calls with answers");
        }
        return code;
    }

    private static void everyCallIsShown() {
        for (Method method : LastForemost.class.getDeclaredMethods()) {
            if (Modifier.isPublic(method.getModifiers()) && !shown.contains(method.getName())) {
                tell(method.getName() + " is not shown");
            }
        }
    }

    private static void run(List<String> code) throws Exception {
        Path dir = Files.createTempDirectory("readme");
        Path source = dir.resolve("Page.java");
        try {
            Files.writeString(source, "public final class Page {\npublic static void main("
                + "String[] args) {\n" + String.join("\n", code) + "\n}\n}\n");
            JavaCompiler compiler = ToolProvider.getSystemJavaCompiler();
            int failed = compiler.run(null, null, null, "-d", dir.toString(), "-cp",
                System.getProperty("java.class.path"), source.toString());
            if (failed != 0) {
                tell("what it shows does not compile");
                return;
            }
            call(dir);
        } finally {
            for (File each : dir.toFile().listFiles()) {
                each.delete();
            }
            dir.toFile().delete();
        }
    }

    private static void call(Path dir) throws Exception {
        URL[] places = {dir.toUri().toURL()};
        try (URLClassLoader loader =
                new URLClassLoader(places, ReadmeTest.class.getClassLoader())) {
            Method page = loader.loadClass("Page").getMethod("main", String[].class);
            page.invoke(null, (Object) new String[0]);
        } catch (InvocationTargetException e) {
            tell("a call threw " + e.getCause());
        }
    }
}
