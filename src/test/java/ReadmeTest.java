import java.io.ByteArrayOutputStream;
import java.io.IOException;
import java.io.PrintStream;
import java.lang.reflect.Method;
import java.lang.reflect.Modifier;
import java.net.URL;
import java.net.URLClassLoader;
import java.nio.file.Files;
import java.nio.file.Path;
import javax.tools.JavaCompiler;
import javax.tools.ToolProvider;

/** README.md says how the class is used: its program runs and prints what is said there, and each call is named. */
public final class ReadmeTest {
    public static void main(String[] args) throws IOException, ReflectiveOperationException {
        String readme = Files.readString(Path.of("README.md"));
        Expect.same("the program of README.md", block(readme, "text"), printed(block(readme, "java")));
        for (Method method : MarloweHost.class.getDeclaredMethods()) {
            if (Modifier.isPublic(method.getModifiers())) {
                String call = "`" + method.getName() + "(";
                Expect.is("README.md names " + call, 1, () -> readme.contains(call) ? 1 : 0);
            }
        }
        for (String constant : "CLEAN FOUND FUEL OUTSIDE".split(" ")) {
            Expect.is("README.md names " + constant, 1, () -> readme.contains("`" + constant + "`") ? 1 : 0);
        }
        Expect.is("README.md tells how the tests are run", 1, () -> readme.contains("bash .ci/run") ? 1 : 0);
        Expect.finish();
    }

    /** What stands in the first block of this kind. */
    private static String block(String readme, String kind) {
        String fence = "```" + kind + "\n";
        int from = readme.indexOf(fence) + fence.length();
        return readme.substring(from, readme.indexOf("```", from));
    }

    private static String printed(String program) throws IOException, ReflectiveOperationException {
        Path place = Files.createTempDirectory("readme");
        Path source = Files.writeString(place.resolve("Example.java"), program);
        JavaCompiler compiler = ToolProvider.getSystemJavaCompiler();
        int code = compiler.run(null, null, null, "-cp", System.getProperty("java.class.path"), "-d", place.toString(), source.toString());
        Expect.is("javac of the program of README.md", 0, () -> code);
        PrintStream before = System.out;
        ByteArrayOutputStream lines = new ByteArrayOutputStream();
        try (URLClassLoader loader = new URLClassLoader(new URL[] {place.toUri().toURL()}, ReadmeTest.class.getClassLoader())) {
            Method entry = loader.loadClass("Example").getMethod("main", String[].class);
            System.setOut(new PrintStream(lines, true));
            entry.invoke(null, (Object) new String[0]);
        } finally {
            System.setOut(before);
        }
        Files.delete(source);
        Files.delete(place.resolve("Example.class"));
        Files.delete(place);
        return lines.toString().replace("\r", "");
    }
}
