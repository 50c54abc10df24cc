import java.io.IOException;
import java.net.URL;
import java.net.URLClassLoader;
import java.nio.file.DirectoryStream;
import java.nio.file.Files;
import java.nio.file.Path;
import java.util.regex.Matcher;
import java.util.regex.Pattern;
import javax.tools.JavaCompiler;
import javax.tools.ToolProvider;

/** README.md holds: its code compiles, each call answers what stands behind it, and each test is named. */
public final class ReadmeTest {
    private static final Pattern CODE = Pattern.compile("(?s)```java\n(.*?)```");
    private static final Pattern ANSWERED = Pattern.compile("(?m)^(x\\.\\w+\\([^;]*\\)); *// (-?\\d+|'.')");
    private static int asked = 0;

    public static void main(String[] args) throws Exception {
        String readme = Files.readString(Path.of("README.md"));
        namesTests(readme);
        JavaCompiler compiler = ToolProvider.getSystemJavaCompiler();
        if (compiler == null) {
            System.out.println("no compiler inside this java, so the code is not tried");
        } else {
            answers(readme, compiler);
            Check.due("calls with their answers were found", asked > 20 ? 1 : 0, 1);
        }
        Check.finish();
    }

    /** The class made of the code comes from a loader of its own, to which only what is public is open. */
    public static void due(String call, int got, int want) {
        asked++;
        Check.due(call, got, want);
    }

    private static void namesTests(String readme) throws IOException {
        try (DirectoryStream<Path> files = Files.newDirectoryStream(Path.of("src/test/java"), "*Test.java")) {
            for (Path file : files) {
                String name = file.getFileName().toString().replace(".java", "");
                Check.due("README.md names " + name, readme.contains("`" + name + "`") ? 1 : 0, 1);
            }
        }
    }

    private static void answers(String readme, JavaCompiler compiler) throws Exception {
        StringBuilder code = new StringBuilder();
        Matcher block = CODE.matcher(readme);
        while (block.find()) {
            code.append(ANSWERED.matcher(block.group(1)).replaceAll("ReadmeTest.due(\"$1\", $1, $2); // "));
        }
        Path room = Files.createTempDirectory("readme");
        Path source = room.resolve("Example.java");
        Files.writeString(source, "public final class Example { public static void show() {\n" + code + "}}\n");
        String[] with = {"-d", room.toString(), "-cp", System.getProperty("java.class.path"), source.toString()};
        int compiled = compiler.run(null, null, null, with);
        Check.due("the code of README.md compiles", compiled, 0);
        if (compiled == 0) {
            try (URLClassLoader loader = new URLClassLoader(new URL[] {room.toUri().toURL()})) {
                loader.loadClass("Example").getMethod("show").invoke(null);
            }
            Files.delete(room.resolve("Example.class"));
        }
        Files.delete(source);
        Files.delete(room);
    }
}
