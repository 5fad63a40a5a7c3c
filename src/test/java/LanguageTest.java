import java.io.IOException;
import java.lang.reflect.Constructor;
import java.lang.reflect.Field;
import java.lang.reflect.Method;
import java.lang.reflect.Modifier;
import java.nio.file.Files;
import java.nio.file.Path;
import java.util.ArrayList;
import java.util.Arrays;
import java.util.List;
import java.util.Set;
import java.util.TreeSet;
import java.util.regex.Matcher;
import java.util.regex.Pattern;

/** The rules of ../shared/LANGUAGE.md that can be seen in the text of the class or by reflection. */
public final class LanguageTest {
    private static int wrong = 0;

    private static void right(String rule, boolean is) {
        if (!is) {
            wrong++;
            System.out.println("broken: " + rule);
        }
    }

    /** The text without comments, and with texts and signs in it made empty. */
    private static String bare(String text) {
        return text.replaceAll("(?s)/\\*.*?\\*/", "").replaceAll("//[^\n]*", "")
                .replaceAll("\"[^\"\n]*\"", "\"\"").replaceAll("'(\\\\.|[^'])'", "' '");
    }

    private static void face() throws IOException {
        Set<String> wanted = new TreeSet<>();
        String doc = Files.readString(Path.of("../shared/DOC.md"));
        String block = doc.substring(doc.indexOf("```java"), doc.indexOf("```\n", doc.indexOf("```java") + 7));
        Matcher m = Pattern.compile("    public (?:static final )?(.*?);").matcher(block);
        while (m.find()) {
            wanted.add(m.group(1).replaceAll("\\b(int|long) [a-z]+(?=[,)])", "$1").replaceAll(" = .*", ""));
        }
        Set<String> there = new TreeSet<>();
        for (Method method : FordLine.class.getDeclaredMethods()) {
            if (Modifier.isPrivate(method.getModifiers())) continue;
            right("1: " + method + " is public and no static", Modifier.isPublic(method.getModifiers())
                    && !Modifier.isStatic(method.getModifiers()));
            there.add(method.getReturnType() + " " + method.getName() + parameters(method.getParameterTypes()));
        }
        for (Constructor<?> one : FordLine.class.getDeclaredConstructors()) {
            there.add("FordLine" + parameters(one.getParameterTypes()));
        }
        for (Field field : FordLine.class.getDeclaredFields()) {
            if (!Modifier.isPrivate(field.getModifiers())) there.add(field.getType() + " " + field.getName());
        }
        right("1: the face is the document's: " + wanted + " " + there, wanted.equals(there) && wanted.size() == 47);
        right("1: public and final", Modifier.isFinal(FordLine.class.getModifiers()));
    }

    /** The class says ahead of its calls what the document's interface says there. */
    private static void heads(String source) throws IOException {
        Matcher told = Pattern.compile("Ahead of the calls (.*?) the interface says: (---- .*?)\\.\n")
                .matcher(Files.readString(Path.of("../shared/DOC.md")));
        int calls = 0;
        while (told.find()) {
            int from = source.indexOf("    // " + told.group(2) + "\n");
            int to = Math.max(from, source.indexOf("    // ----", from + 1));
            List<String> there = new ArrayList<>();
            Matcher m = Pattern.compile("    public (?:int|long) (\\w+)\\(").matcher(source.substring(Math.max(0, from), to));
            while (m.find()) there.add("`" + m.group(1) + "`");
            right("the calls behind " + told.group(2), from >= 0 && String.join(", ", there).equals(told.group(1)));
            calls += there.size();
        }
        right("each call has its head: " + calls, calls == 45);
    }

    private static String parameters(Class<?>[] types) {
        return Arrays.toString(types).replace('[', '(').replace(']', ')');
    }

    private static void classes() {
        Set<String> open = new TreeSet<>();
        for (Method method : FordLine.class.getDeclaredMethods()) {
            if (Modifier.isPublic(method.getModifiers())) open.add(method.getName());
        }
        List<Class<?>> all = new ArrayList<>(List.of(FordLine.class));
        all.addAll(List.of(FordLine.class.getDeclaredClasses()));
        right("11: some twelve classes: " + all.size(), all.size() <= 12);
        for (Class<?> one : all) {
            right("2: static " + one, one == FordLine.class || Modifier.isStatic(one.getModifiers()));
            int fields = 0;
            for (Field field : one.getDeclaredFields()) {
                boolean fixed = Modifier.isStatic(field.getModifiers());
                right("5: " + field, !fixed || Modifier.isFinal(field.getModifiers()));
                right("5: " + field, !fixed || field.getType().isPrimitive() || field.getType() == String.class);
                fields += fixed ? 0 : 1;
            }
            right("11: some twenty fields: " + one, fields <= 20);
            for (Method method : one.getDeclaredMethods()) {
                right("11: seven parameters: " + method, method.getParameterCount() <= 7);
                right("1: a private method of a public one's name: " + method,
                        Modifier.isPublic(method.getModifiers()) || !open.contains(method.getName()));
            }
        }
    }

    private static void words(String text) {
        for (String word : new String[] {"throw", "throws", "try", "catch", "finally", "synchronized", "assert", "var",
            "yield", "double", "float", "System.out", "Exact", "static {", "->", "::", "package", "volatile", "native"}) {
            boolean plain = word.matches("[a-zA-Z]+") && !word.equals("Exact");
            right("6: " + word, !Pattern.compile(plain ? "\\b" + word + "\\b" : Pattern.quote(word)).matcher(text).find());
        }
        Matcher imports = Pattern.compile("import ([^;]*);").matcher(text);
        while (imports.find()) right("4: " + imports.group(), imports.group(1).equals("java.util.Arrays"));
        Matcher calls = Pattern.compile("\\b(Arrays|System|Math|Integer|Long)\\.(\\w+)").matcher(text);
        Set<String> library = Set.of("Arrays.fill", "Arrays.copyOf", "System.arraycopy", "Math.max", "Math.min",
                "Math.abs", "Integer.bitCount", "Integer.numberOfTrailingZeros");
        while (calls.find()) right("4: " + calls.group(), library.contains(calls.group()));
        right("10: no texts joined by +", !Pattern.compile("\"\\s*\\+|\\+\\s*\"").matcher(text).find());
        right("9: no loop without a bound", !Pattern.compile("while \\(true\\)|for \\(;").matcher(text).find());
    }

    private static void lengths(String text) {
        String[] lines = text.split("\n");
        int from = -1;
        for (int i = 0; i < lines.length; i++) {
            if (lines[i].matches("\\s+(public|private).*\\) \\{")) from = i;
            if (lines[i].matches("    (    )?\\}") && from >= 0) {
                right("11: some sixty lines: " + lines[from].trim(), i - from <= 60);
                from = -1;
            }
        }
    }

    public static void main(String[] args) throws IOException {
        String source = Files.readString(Path.of("src/main/java/FordLine.java"));
        right("3: signs 10 and 32 to 126 alone", source.chars().allMatch(c -> c == 10 || c >= 32 && c < 127));
        String text = bare(source);
        face();
        heads(source);
        classes();
        words(text);
        lengths(text);
        System.out.println(wrong == 0 ? "the rules are kept" : wrong + " rules broken");
        if (wrong > 0) System.exit(1);
    }
}
