import java.io.IOException;
import java.lang.reflect.InvocationTargetException;
import java.lang.reflect.Method;
import java.net.URL;
import java.net.URLClassLoader;
import java.nio.file.Files;
import java.nio.file.Path;
import java.util.ArrayList;
import java.util.List;
import java.util.regex.Matcher;
import java.util.regex.Pattern;
import javax.tools.ToolProvider;

/** README.md's example is compiled as it stands there, and each call answers what the page says. */
public final class ReadmeTest {
    private static final Check CHECK = new Check("ReadmeTest");
    private static final Pattern CALL = Pattern.compile("(x\\.\\w+\\(.*\\));\\s*// (-?\\d+|true|false): .*");
    private static final Pattern NAME = Pattern.compile("x\\.(\\w+)\\(");

    private static int answers = 0;

    public static void main(String[] args) throws IOException, ReflectiveOperationException {
        String page = Files.readString(Path.of("README.md"));
        List<String> blocks = blocksOf(page);
        CHECK.due("blocks of Java: a method, then the calls", blocks.size(), 2);
        if (CHECK.wrong() == 0) {
            runExample(blocks.get(0), blocks.get(1));
            CHECK.due("calls with an answer", answers > 0, true);
        }
        namesEveryCall(page);
        CHECK.end();
    }

    private static List<String> blocksOf(String page) {
        List<String> blocks = new ArrayList<>();
        Matcher block = Pattern.compile("```java\n(.*?)```", Pattern.DOTALL).matcher(page);
        while (block.find()) {
            blocks.add(block.group(1));
        }
        return blocks;
    }

    private static void runExample(String method, String calls) throws IOException, ReflectiveOperationException {
        StringBuilder source = new StringBuilder("public final class ReadmeExample {\n").append(method);
        source.append("public static void run() {\n");
        for (String line : calls.split("\n")) {
            source.append(asCheck(line)).append('\n');
        }
        source.append("}\n}\n");
        Path folder = Files.createTempDirectory("readme");
        Path file = folder.resolve("ReadmeExample.java");
        Files.writeString(file, source);
        int failed = ToolProvider.getSystemJavaCompiler().run(null, null, null, "-proc:none", "-cp",
            System.getProperty("java.class.path"), "-d", folder.toString(), file.toString());
        CHECK.due("the example compiles", failed, 0);
        if (failed == 0) {
            load(folder);
        }
        Files.deleteIfExists(folder.resolve("ReadmeExample.class"));
        Files.delete(file);
        Files.delete(folder);
    }

    private static String asCheck(String line) {
        Matcher call = CALL.matcher(line);
        if (!call.matches()) {
            CHECK.due("a call without an answer: " + line, line.startsWith("x."), false);
            return line;
        }
        String told = call.group(1).replace("\\", "\\\\").replace("\"", "\\\"");
        return "ReadmeTest.answer(\"" + told + "\", " + call.group(1) + ", \"" + call.group(2) + "\");";
    }

    private static void load(Path folder) throws IOException, ReflectiveOperationException {
        URL[] places = {folder.toUri().toURL()};
        try (URLClassLoader loader = new URLClassLoader(places, ReadmeTest.class.getClassLoader())) {
            loader.loadClass("ReadmeExample").getMethod("run").invoke(null);
        } catch (InvocationTargetException e) {
            CHECK.due("the example throws " + e.getCause(), 1, 0);
        }
    }

    /** Called by the example. */
    public static void answer(String call, Object got, String want) {
        answers++;
        CHECK.due(call, String.valueOf(got), want);
    }

    private static void namesEveryCall(String page) {
        for (Method m : OuterRows.class.getMethods()) {
            if (m.getDeclaringClass() == OuterRows.class) {
                CHECK.due("`" + m.getName() + "` is named", page.contains("`" + m.getName() + "`"), true);
            }
        }
        Matcher used = NAME.matcher(page);
        while (used.find()) {
            CHECK.due(used.group(1) + " is a call", isCall(used.group(1)), true);
        }
    }

    private static boolean isCall(String name) {
        for (Method m : OuterRows.class.getMethods()) {
            if (m.getName().equals(name)) {
                return true;
            }
        }
        return false;
    }
}
