import java.io.StringWriter;
import java.lang.reflect.Field;
import java.lang.reflect.Method;
import java.lang.reflect.Modifier;
import java.net.URI;
import java.net.URL;
import java.net.URLClassLoader;
import java.nio.file.Files;
import java.nio.file.Path;
import java.util.ArrayList;
import java.util.List;
import java.util.Set;
import java.util.TreeSet;
import java.util.regex.Matcher;
import java.util.regex.Pattern;
import java.util.stream.Stream;
import javax.tools.JavaCompiler;
import javax.tools.JavaFileObject;
import javax.tools.SimpleJavaFileObject;
import javax.tools.ToolProvider;

/** What README.md says, against the class: its Java is compiled and run, its calls and constants are looked for. */
public final class ReadmeTests {
    private static final Pattern BLOCK = Pattern.compile("(?s)```java\n(.*?)```");
    /** A statement with the answer that is due behind it, up to a colon. */
    private static final Pattern LINE = Pattern.compile("(?:(int|long) (\\w+) = )?(.*\\bscanner\\..*?);\\s*// ([-\\w.]+): .*");
    private static final Pattern CALL_ROW = Pattern.compile("(?m)^\\| `(\\w+)\\(([^)]*)\\)` \\|");
    private static final Pattern SIGNATURE = Pattern.compile("(?m)^    public (?:int|long) (\\w+)\\(([^)]*)\\);");
    private static final Pattern CONSTANT_ROW = Pattern.compile("(?m)^\\| (-\\d+) `(\\w+)` \\|");

    private static int wrong;

    private ReadmeTests() {
    }

    public static void main(String[] args) throws Exception {
        Path project = Path.of(System.getProperty("project", "."));
        String readme = Files.readString(project.resolve("README.md"));
        String document = Files.readString(project.resolve("../shared/DOC.md"));
        due("the calls, in the order of the document", calls(CALL_ROW, readme, false), calls(SIGNATURE, document, true));
        constants(readme);
        int answers = examples(readme);
        due("there is Java to run", answers > 30, true);
        System.out.println(wrong == 0 ? "readme: " + answers + " answers are as due" : "readme: " + wrong + " are wrong");
        if (wrong != 0) {
            System.exit(1);
        }
    }

    private static void due(String what, Object got, Object want) {
        if (!got.equals(want)) {
            wrong++;
            System.out.println("readme: " + what + ": " + got + ", due is " + want);
        }
    }

    private static List<String> calls(Pattern pattern, String text, boolean hasTypes) {
        List<String> calls = new ArrayList<>();
        Matcher matcher = pattern.matcher(text);
        while (matcher.find()) {
            String names = hasTypes ? matcher.group(2).replaceAll("\\b(int|long) ", "") : matcher.group(2);
            calls.add(matcher.group(1) + "(" + names + ")");
        }
        return calls;
    }

    private static void constants(String readme) throws IllegalAccessException {
        Set<String> told = new TreeSet<>();
        Matcher matcher = CONSTANT_ROW.matcher(readme);
        while (matcher.find()) {
            told.add(matcher.group(2) + "=" + matcher.group(1));
        }
        Set<String> has = new TreeSet<>();
        for (Field field : MemberScanner.class.getDeclaredFields()) {
            if (Modifier.isPublic(field.getModifiers())) {
                has.add(field.getName() + "=" + field.getInt(null));
            }
        }
        due("the constants", told, has);
    }

    private static int examples(String readme) throws Exception {
        int answers = 0;
        Matcher blocks = BLOCK.matcher(readme);
        while (blocks.find()) {
            List<String> lines = blocks.group(1).lines().toList();
            List<String> told = new ArrayList<>();
            String[] got = run(program(lines, told));
            due("how many answers", got.length, told.size());
            for (int i = 0; i < Math.min(got.length, told.size()); i++) {
                due(lines.get(i + 1), got[i], told.get(i));
            }
            answers += told.size();
        }
        return answers;
    }

    /** A program that keeps the answer of every line but the first, which makes the object; told gets those that are due. */
    private static String program(List<String> lines, List<String> told) {
        StringBuilder text = new StringBuilder("public final class Example {\n    public static String[] answers() {\n");
        text.append("        java.util.List<String> answers = new java.util.ArrayList<>();\n        ").append(lines.get(0)).append('\n');
        for (String line : lines.subList(1, lines.size())) {
            Matcher matcher = LINE.matcher(line);
            if (!matcher.matches()) {
                due(line, "not a call with its answer", "a call with its answer");
                continue;
            }
            String kept = matcher.group(3);
            if (matcher.group(1) != null) {
                text.append("        ").append(matcher.group(1)).append(' ').append(matcher.group(2)).append(" = ").append(kept).append(";\n");
                kept = matcher.group(2);
            }
            text.append("        answers.add(String.valueOf(").append(kept).append("));\n");
            told.add(matcher.group(4));
        }
        return text.append("        return answers.toArray(new String[0]);\n    }\n}\n").toString();
    }

    private static String[] run(String program) throws Exception {
        Path out = Files.createTempDirectory("readme");
        try {
            JavaCompiler compiler = ToolProvider.getSystemJavaCompiler();
            StringWriter said = new StringWriter();
            List<String> options = List.of("-d", out.toString(), "-cp", System.getProperty("java.class.path"));
            if (!compiler.getTask(said, null, null, options, null, List.of(source(program))).call()) {
                due("the Java compiles", said.toString(), "");
                return new String[0];
            }
            try (URLClassLoader loader = new URLClassLoader(new URL[] {out.toUri().toURL()})) {
                Method answers = loader.loadClass("Example").getMethod("answers");
                return (String[]) answers.invoke(null);
            }
        } finally {
            remove(out);
        }
    }

    private static JavaFileObject source(String program) {
        return new SimpleJavaFileObject(URI.create("string:///Example.java"), JavaFileObject.Kind.SOURCE) {
            @Override
            public CharSequence getCharContent(boolean ignoreEncodingErrors) {
                return program;
            }
        };
    }

    private static void remove(Path folder) throws Exception {
        try (Stream<Path> files = Files.list(folder)) {
            for (Path file : files.toList()) {
                Files.delete(file);
            }
        }
        Files.delete(folder);
    }
}
