import java.lang.reflect.Method;
import java.lang.reflect.Modifier;
import java.net.URL;
import java.net.URLClassLoader;
import java.nio.file.Files;
import java.nio.file.Path;
import java.util.regex.Matcher;
import java.util.regex.Pattern;
import java.util.stream.Stream;
import javax.tools.ToolProvider;

/** What README.md shows is compiled and run as it stands there: a number behind // is the answer that is due. */
public final class ReadmeHolds {
    private static final Pattern BLOCK = Pattern.compile("(?s)```java\\n(.*?)```");
    private static final Pattern ANSWERED = Pattern.compile("(?m)^(s\\.\\w+\\(.*?\\)); +// (-?\\d+): .*$");
    private static int wrong = 0;

    private static void fail(String what) {
        wrong++;
        System.out.println("ReadmeHolds: " + what);
    }

    private static String program(String readme) {
        StringBuilder helpers = new StringBuilder();
        StringBuilder steps = new StringBuilder();
        int answers = 0;
        Matcher block = BLOCK.matcher(readme);
        while (block.find()) {
            if (block.group(1).startsWith("static")) {
                helpers.append(block.group(1));
                continue;
            }
            Matcher line = ANSWERED.matcher(block.group(1));
            answers += (int) line.results().count();
            steps.append(line.replaceAll("due($1, $2);"));
        }
        if (answers < 20) fail("only " + answers + " answers are shown");
        return "public final class Shown {\n" + helpers
            + "private static int at = 0;\nprivate static int wrong = 0;\n"
            + "private static void due(int got, int want) { at++; if (got != want) { wrong++; System.out.println("
            + "\"README.md: answer \" + at + \" is \" + got + \", shown is \" + want); } }\n"
            + "public static int run() {\n" + steps + "return wrong;\n}\n}\n";
    }

    private static void runShown(String program) throws Exception {
        Path folder = Files.createTempDirectory("readme");
        try {
            Path file = folder.resolve("Shown.java");
            Files.writeString(file, program);
            int failed = ToolProvider.getSystemJavaCompiler().run(null, null, null,
                "-cp", System.getProperty("java.class.path"), "-d", folder.toString(), file.toString());
            if (failed != 0) {
                fail("the example does not compile");
                return;
            }
            try (URLClassLoader loader = new URLClassLoader(new URL[] {folder.toUri().toURL()})) {
                int found = (int) loader.loadClass("Shown").getMethod("run").invoke(null);
                if (found != 0) fail(found + " answers are not as shown");
            }
        } finally {
            try (Stream<Path> left = Files.list(folder)) {
                for (Path path : left.toList()) Files.delete(path);
            }
            Files.delete(folder);
        }
    }

    private static void allNamed(String readme) {
        for (Method m : SilentSale.class.getDeclaredMethods()) {
            if (Modifier.isPublic(m.getModifiers()) && !readme.contains("`" + m.getName() + "`")) fail(m.getName() + " is not named");
        }
    }

    public static void main(String[] args) throws Exception {
        String readme = Files.readString(Path.of("README.md"));
        allNamed(readme);
        runShown(program(readme));
        System.out.println("ReadmeHolds: " + (wrong == 0 ? "all answers are as shown" : wrong + " faults"));
        if (wrong != 0) System.exit(1);
    }
}
