import java.io.IOException;
import java.lang.reflect.Method;
import java.net.URL;
import java.net.URLClassLoader;
import java.nio.file.Files;
import java.nio.file.Path;
import java.util.ArrayList;
import java.util.List;
import java.util.regex.Matcher;
import java.util.regex.Pattern;
import javax.tools.ToolProvider;

/** README.md: each answer that stands behind a call there is the one that is given, and each call of the face is told. */
public final class ReadmeTest {
    private static final Due due = new Due("ReadmeTest");
    private static final Pattern BLOCK = Pattern.compile("```java\n(.*?)```", Pattern.DOTALL);
    private static final Pattern ANSWERED = Pattern.compile("(?m)^(x\\.\\w+\\(.*\\)); +// (-?\\d+): .*$");
    private static final Pattern ROW = Pattern.compile("(?m)^\\| `(\\w+)\\((.*?)\\)` \\|");

    public static void main(String[] args) throws IOException, ReflectiveOperationException {
        String readme = Files.readString(Path.of("README.md"));
        answers(readme);
        calls(readme);
        refusals(readme);
        due.end();
    }

    /** Each block becomes a method that answers its calls' answers, one behind the other. */
    private static void answers(String readme) throws IOException, ReflectiveOperationException {
        List<String> calls = new ArrayList<>();
        List<Long> wants = new ArrayList<>();
        StringBuilder source = new StringBuilder("public final class Readme {\n");
        source.append("public static long[] answers() {\njava.util.List<Long> got = new java.util.ArrayList<>();\n");
        Matcher block = BLOCK.matcher(readme);
        while (block.find()) {
            Matcher line = ANSWERED.matcher(block.group(1));
            while (line.find()) {
                calls.add(line.group(1));
                wants.add(Long.parseLong(line.group(2)));
            }
            source.append("{\n").append(line.replaceAll("got.add((long) $1);")).append("}\n");
        }
        source.append("return got.stream().mapToLong(v -> v).toArray();\n}\n}\n");
        long[] got = answered(source.toString());
        due.is("answers in README.md", got.length, calls.size());
        due.is("they are many", got.length > 40 ? 1 : 0, 1);
        for (int i = 0; i < got.length && i < calls.size(); i++) {
            due.is("README.md: " + calls.get(i), got[i], wants.get(i));
        }
    }

    private static long[] answered(String source) throws IOException, ReflectiveOperationException {
        Path out = Files.createTempDirectory("readme");
        Path file = out.resolve("Readme.java");
        Path made = out.resolve("Readme.class");
        try (URLClassLoader loader = new URLClassLoader(new URL[] {out.toUri().toURL()})) {
            Files.writeString(file, source);
            int code = ToolProvider.getSystemJavaCompiler().run(null, null, null, "-d", out.toString(),
                    "-cp", System.getProperty("java.class.path"), file.toString());
            due.is("README.md compiles", code, 0);
            return code != 0 ? new long[0] : (long[]) loader.loadClass("Readme").getMethod("answers").invoke(null);
        } finally {
            Files.deleteIfExists(file);
            Files.deleteIfExists(made);
            Files.deleteIfExists(out);
        }
    }

    private static void calls(String readme) {
        List<String> rows = new ArrayList<>();
        Matcher row = ROW.matcher(readme);
        while (row.find()) {
            rows.add(row.group(1) + " " + (row.group(2).isEmpty() ? 0 : row.group(2).split(", ").length));
        }
        int face = 0;
        for (Method m : OtherHalfOfNight.class.getMethods()) {
            if (m.getDeclaringClass() == OtherHalfOfNight.class) {
                face++;
                String as = m.getName() + " " + m.getParameterCount();
                due.is("README.md tells " + as, rows.contains(as) ? 1 : 0, 1);
            }
        }
        due.is("README.md tells no call more", rows.size(), face);
    }

    private static void refusals(String readme) {
        due.is("BAD", readme.contains("BAD (" + OtherHalfOfNight.BAD + ")") ? 1 : 0, 1);
        due.is("STATE", readme.contains("STATE (" + OtherHalfOfNight.STATE + ")") ? 1 : 0, 1);
        due.is("FULL", readme.contains("FULL (" + OtherHalfOfNight.FULL + ")") ? 1 : 0, 1);
        due.is("NONE", readme.contains("NONE (" + OtherHalfOfNight.NONE + ")") ? 1 : 0, 1);
    }
}
