import java.lang.reflect.Method;
import java.lang.reflect.Modifier;
import java.net.URL;
import java.net.URLClassLoader;
import java.nio.file.Files;
import java.nio.file.Path;
import java.util.regex.Matcher;
import java.util.regex.Pattern;
import java.util.stream.Stream;
import javax.tools.ToolProvider;

/** What README.md shows is compiled and run, and each call of the face is told in it. */
public class ReadmeTest {
    static final Pattern SHOWN = Pattern.compile("(?:int|boolean) (\\w+) = .*; +// (-?\\d+|true|false)\\b.*");
    static int wrong;
    static int checks;

    public static void main(String[] args) throws Exception {
        Path main = Path.of(args.length > 0 ? args[0] : "src/main/java/OverlapMill.java");
        String readme = Files.readString(main.toAbsolutePath().resolve("../../../../README.md").normalize());
        checkCallsAreTold(readme);
        runShown(readme);
        checkTestsAreTold(readme, main.toAbsolutePath().resolve("../../../test/java").normalize());
        System.out.println(checks + " checks, " + wrong + " wrong");
        System.exit(wrong == 0 ? 0 : 1);
    }

    static void hold(boolean fine, String told) {
        checks++;
        if (!fine) {
            wrong++;
            System.out.println(told);
        }
    }

    static void checkCallsAreTold(String readme) {
        for (Method method : OverlapMill.class.getDeclaredMethods()) {
            if (Modifier.isPublic(method.getModifiers())) {
                hold(readme.contains("`" + method.getName() + "`"), "README.md does not tell " + method.getName());
            }
        }
    }

    static void checkTestsAreTold(String readme, Path tests) throws Exception {
        try (Stream<Path> files = Files.list(tests)) {
            for (Path file : (Iterable<Path>) files::iterator) {
                String name = file.getFileName().toString().replace(".java", "");
                hold(readme.contains("`" + name + "`"), "README.md does not tell " + name);
            }
        }
    }

    static void runShown(String readme) throws Exception {
        int begin = readme.indexOf("```java\n") + 8;
        String shown = readme.substring(begin, readme.indexOf("```", begin));
        Path place = Files.createTempDirectory("shown");
        Path file = place.resolve("Shown.java");
        Files.writeString(file, written(shown));
        String path = System.getProperty("java.class.path");
        int ended = ToolProvider.getSystemJavaCompiler().run(null, null, null,
                "-cp", path, "-d", place.toString(), file.toString());
        hold(ended == 0, "what README.md shows does not compile");
        if (ended == 0) {
            try (URLClassLoader loader = new URLClassLoader(new URL[] {place.toUri().toURL()})) {
                String told = (String) loader.loadClass("Shown").getMethod("told").invoke(null);
                hold(told.isEmpty(), told);
            }
        }
        for (String made : new String[] {"Shown.class", "Shown.java", ""}) {
            Files.deleteIfExists(place.resolve(made));
        }
    }

    /** A class that does what is shown and tells each answer that is not the one shown beside it. */
    static String written(String shown) {
        StringBuilder code = new StringBuilder("public class Shown {\npublic static String told() {\nString told = \"\";\n");
        int answers = 0;
        for (String line : shown.split("\n")) {
            code.append(line).append('\n');
            Matcher one = SHOWN.matcher(line);
            if (one.matches()) {
                answers++;
                code.append("if (").append(one.group(1)).append(" != ").append(one.group(2))
                        .append(") { told += \"").append(one.group(1)).append(" is \" + ")
                        .append(one.group(1)).append(" + \"; \"; }\n");
            }
        }
        hold(answers == shown.split("\n").length - 1, "README.md shows " + answers + " answers");
        return code.append("return told;\n}\n}\n").toString();
    }
}
