import java.io.ByteArrayOutputStream;
import java.io.PrintStream;
import java.lang.reflect.Method;
import java.lang.reflect.Modifier;
import java.net.URL;
import java.net.URLClassLoader;
import java.nio.file.Files;
import java.nio.file.Path;
import javax.tools.ToolProvider;

/** README.md tells the truth: its example compiles and prints what stands there, and each call is told. */
public final class FormulaSetterReadmeTest extends Checks {
    public static void main(String[] args) throws Exception {
        String readme = Files.readString(Path.of("README.md")).replace("\r\n", "\n");
        due("what the example prints", printed(block(readme, "java")), block(readme, "text"));
        for (Method m : FormulaSetter.class.getDeclaredMethods()) {
            if (Modifier.isPublic(m.getModifiers())) {
                due("README.md tells " + m.getName(), readme.contains("`" + m.getName() + "("), true);
            }
        }
        due("README.md tells the test script", block(readme, "sh"), ".ci/run\n");
        due("README.md tells NONE", readme.contains("`NONE` (" + FormulaSetter.NONE + ")"), true);
        tell();
    }

    /** The first block of code of a language. */
    private static String block(String readme, String language) {
        String begin = "```" + language + "\n";
        int from = readme.indexOf(begin) + begin.length();
        return readme.substring(from, readme.indexOf("```", from));
    }

    private static String printed(String program) throws Exception {
        Path folder = Files.createTempDirectory("readme");
        Path source = folder.resolve("Example.java");
        Path compiled = folder.resolve("Example.class");
        Files.writeString(source, program);
        PrintStream console = System.out;
        ByteArrayOutputStream out = new ByteArrayOutputStream();
        try (URLClassLoader loader = new URLClassLoader(new URL[] {folder.toUri().toURL()})) {
            String classes = System.getProperty("java.class.path");
            ToolProvider.getSystemJavaCompiler().run(null, null, null,
                    "-cp", classes, "-d", folder.toString(), source.toString());
            Method main = loader.loadClass("Example").getMethod("main", String[].class);
            System.setOut(new PrintStream(out, true));
            main.invoke(null, (Object) new String[0]);
        } finally {
            System.setOut(console);
            Files.deleteIfExists(compiled);
            Files.deleteIfExists(source);
            Files.deleteIfExists(folder);
        }
        return out.toString().replace("\r\n", "\n");
    }
}
