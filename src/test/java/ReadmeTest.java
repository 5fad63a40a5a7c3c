import java.io.IOException;
import java.lang.reflect.Method;
import java.lang.reflect.Modifier;
import java.net.URL;
import java.net.URLClassLoader;
import java.nio.file.Files;
import java.nio.file.Path;
import java.util.Comparator;
import java.util.List;
import java.util.regex.Matcher;
import java.util.regex.Pattern;
import java.util.stream.Stream;
import javax.tools.ToolProvider;

/** The examples of README.md, compiled as they stand there and run one behind the other; and that it names each call. */
public final class ReadmeTest {
    private static final Pattern BLOCK = Pattern.compile("(?s)```java\n(.*?)```");
    private static final Pattern ANSWERED = Pattern.compile("(?m)^((?:ford|tell)\\b.*\\));\\s*// (-?\\d+)(?:: .*)?$");
    private static int wrong = 0;
    private static int asked = 0;

    /** The examples call this in place of answering by a comment. */
    public static void due(String call, long got, long want) {
        asked++;
        if (got != want) tellWrong(call + " answered " + got + ", README.md says " + want);
    }

    private static void tellWrong(String what) {
        wrong++;
        System.out.println(what);
    }

    /** A class with the functions of README.md, and its other lines, each answer held, in one method. */
    private static String asClass(String readme) {
        StringBuilder functions = new StringBuilder();
        StringBuilder lines = new StringBuilder();
        for (Matcher block = BLOCK.matcher(readme); block.find();) {
            String code = block.group(1);
            if (code.startsWith("static ")) {
                functions.append(code);
                continue;
            }
            int answers = (int) ANSWERED.matcher(code).results().count();
            if (answers != code.split("// ", -1).length - 1) tellWrong("an answer that can't be read in:\n" + code);
            lines.append(ANSWERED.matcher(code).replaceAll(m -> Matcher.quoteReplacement("ReadmeTest.due(\""
                    + m.group(1).replace("\"", "'") + "\", " + m.group(1) + ", " + m.group(2) + "L);")));
        }
        return "public final class ReadmeExamples {\n" + functions + "public static void run() {\n" + lines + "}\n}\n";
    }

    private static void runExamples(String readme) throws Exception {
        Path dir = Files.createTempDirectory("readme");
        try {
            Path source = dir.resolve("ReadmeExamples.java");
            Files.writeString(source, asClass(readme));
            int failed = ToolProvider.getSystemJavaCompiler().run(null, null, null, "-d", dir.toString(), "-cp",
                    System.getProperty("java.class.path"), source.toString());
            if (failed != 0) {
                tellWrong("the examples don't compile");
                return;
            }
            try (URLClassLoader loader = new URLClassLoader(new URL[] {dir.toUri().toURL()})) {
                loader.loadClass("ReadmeExamples").getMethod("run").invoke(null);
            }
        } finally {
            clear(dir);
        }
    }

    private static void clear(Path dir) throws IOException {
        List<Path> all;
        try (Stream<Path> walk = Files.walk(dir)) {
            all = walk.sorted(Comparator.reverseOrder()).toList();
        }
        for (Path one : all) Files.delete(one);
    }

    private static void namesEachCall(String readme) {
        for (Method method : FordLine.class.getDeclaredMethods()) {
            boolean named = Pattern.compile("`" + method.getName() + "\\([^`]*\\)`").matcher(readme).find()
                    || Pattern.compile("`" + method.getName() + "`").matcher(readme).find();
            if (Modifier.isPublic(method.getModifiers()) && !named) tellWrong("README.md doesn't name " + method);
        }
    }

    /** The words of laws and lines, and the codes, that the document has. */
    private static void tellsOf(String readme, String... words) {
        for (String word : words) {
            if (!Pattern.compile("(?<![\\w-])" + Pattern.quote(word) + "(?!\\w)").matcher(readme).find()) {
                tellWrong("README.md doesn't tell of " + word);
            }
        }
    }

    public static void main(String[] args) throws Exception {
        String readme = Files.readString(Path.of("README.md"));
        runExamples(readme);
        namesEachCall(readme);
        tellsOf(readme, "river", "depth", "tide", "person", "reach", "strength", "family", "at", "holds", "trusts", "who",
                "spot", "beside", "water", "theirs", "stone", "gap", "or", "and", "not");
        tellsOf(readme, "-1", "-2", "-3", "-4", "-5", "-6", "-7", "-11", "-12", "-13", "-31", "-34", ".ci/run", "512");
        if (asked < 40) tellWrong("only " + asked + " answers were found in README.md");
        System.out.println(asked + " answers, " + wrong + " not as README.md says");
        if (wrong > 0) System.exit(1);
    }
}
