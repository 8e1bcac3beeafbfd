import java.io.IOException;
import java.lang.reflect.Field;
import java.lang.reflect.Method;
import java.lang.reflect.Modifier;
import java.nio.file.Files;
import java.nio.file.Path;
import java.util.List;
import java.util.Set;
import java.util.TreeSet;
import java.util.regex.Matcher;
import java.util.regex.Pattern;

/** The document's face, and what of LANGUAGE.md can be seen by looking at the source and the classes. */
public final class LanguageTest {
    private static final Due due = new Due("LanguageTest");
    private static final String[] FACE = {
        "int set(int, int, int)", "int wakes(int, int, int)", "int told(int, int)", "int eased(int)",
        "int feed(int)", "int text()", "int force(int)", "int night()", "int news(int)",
        "int run(int, int, int, int)", "int sleeps(int)", "int pour(int)", "int best(int)",
        "long blend(int, int, int)", "int tells(int, int, int)", "int film(int, int, int)", "int drawn(int, int)",
        "long chance(int, int, int, int)", "int image()", "int back()", "int count(int)",
        "int sheet(int, int, int)", "int cell(int, int, int)", "int copy(int, int, int, int, int)",
        "int house(int, int, int, int)", "int taken(int, int)"};

    public static void main(String[] args) throws IOException {
        face();
        constants();
        classes();
        source();
        due.end();
    }

    private static String signature(Method m) {
        StringBuilder s = new StringBuilder(m.getReturnType().getSimpleName() + " " + m.getName() + "(");
        String comma = "";
        for (Class<?> p : m.getParameterTypes()) {
            s.append(comma).append(p.getSimpleName());
            comma = ", ";
        }
        return s + ")";
    }

    private static void face() {
        Class<?> c = OtherHalfOfNight.class;
        Set<String> open = new TreeSet<>();
        for (Method m : c.getDeclaredMethods()) {
            if (!Modifier.isPrivate(m.getModifiers())) {
                open.add(signature(m));
                due.is(m + " is public", Modifier.isPublic(m.getModifiers()) ? 1 : 0, 1);
                due.is(m + " is an object's", Modifier.isStatic(m.getModifiers()) ? 1 : 0, 0);
            }
        }
        due.is("the face is " + open, open.equals(new TreeSet<>(List.of(FACE))) ? 1 : 0, 1);
        due.is("final", Modifier.isFinal(c.getModifiers()) ? 1 : 0, 1);
        due.is("public", Modifier.isPublic(c.getModifiers()) ? 1 : 0, 1);
        due.is("one constructor", c.getDeclaredConstructors().length, 1);
        due.is("a public one", c.getConstructors().length, 1);
    }

    private static void constants() {
        due.is("NONE", OtherHalfOfNight.NONE, -1);
        due.is("BAD", OtherHalfOfNight.BAD, -2);
        due.is("STATE", OtherHalfOfNight.STATE, -3);
        due.is("FULL", OtherHalfOfNight.FULL, -4);
        due.is("NO", OtherHalfOfNight.NO, -4611686018427387904L);
        Set<String> open = new TreeSet<>();
        for (Field f : OtherHalfOfNight.class.getDeclaredFields()) {
            if (!Modifier.isPrivate(f.getModifiers())) {
                open.add(f.getName());
            }
        }
        due.is("no other constant: " + open, open.equals(Set.of("NONE", "BAD", "STATE", "FULL", "NO")) ? 1 : 0, 1);
    }

    private static void classes() {
        Set<String> faceNames = new TreeSet<>();
        for (Method m : OtherHalfOfNight.class.getMethods()) {
            if (m.getDeclaringClass() == OtherHalfOfNight.class) {
                faceNames.add(m.getName());
            }
        }
        Class<?>[] inside = OtherHalfOfNight.class.getDeclaredClasses();
        due.is("at most twelve classes", inside.length < 12 ? 1 : 0, 1);
        members(OtherHalfOfNight.class, faceNames, false);
        for (Class<?> c : inside) {
            due.is(c + " is static", Modifier.isStatic(c.getModifiers()) ? 1 : 0, 1);
            due.is(c + " is private", Modifier.isPrivate(c.getModifiers()) ? 1 : 0, 1);
            due.is(c + " has none inside", c.getDeclaredClasses().length, 0);
            members(c, faceNames, true);
        }
    }

    private static void members(Class<?> c, Set<String> faceNames, boolean inside) {
        int fields = 0;
        for (Field f : c.getDeclaredFields()) {
            if (Modifier.isStatic(f.getModifiers())) {
                boolean plain = Set.of("int", "long", "boolean", "char", "String").contains(f.getType().getSimpleName());
                due.is(f + " is a constant", Modifier.isFinal(f.getModifiers()) && plain ? 1 : 0, 1);
            } else {
                fields++;
            }
        }
        due.is(c + " has at most twenty fields", fields <= 20 ? 1 : 0, 1);
        for (Method m : c.getDeclaredMethods()) {
            due.is(m + " has at most seven parameters", m.getParameterCount() <= 7 ? 1 : 0, 1);
            if (inside || Modifier.isPrivate(m.getModifiers())) {
                due.is(m + " bears no name of the face", faceNames.contains(m.getName()) ? 1 : 0, 0);
            }
        }
    }

    private static void source() throws IOException {
        String source = Files.readString(Path.of("src/main/java/OtherHalfOfNight.java"));
        due.is("no sign but 10 and 32 to 126", source.chars().allMatch(c -> c == 10 || c >= 32 && c < 127) ? 1 : 0, 1);
        String bare = source.replaceAll("(?s)/\\*.*?\\*/", "").replaceAll("//[^\n]*", "").replaceAll("\"[^\"\n]*\"", "\"\"");
        for (String word : List.of("throw", "throws", "try", "catch", "finally", "synchronized", "assert", "import",
                "package", "interface", "instanceof", "float", "double", "var", "null")) {
            due.is("no '" + word + "'", Pattern.compile("\\b" + word + "\\b").matcher(bare).find() ? 1 : 0, 0);
        }
        for (String sign : List.of("->", "::", "@", "\"\" +", "+ \"\"")) {
            due.is("no '" + sign + "'", bare.contains(sign) ? 1 : 0, 0);
        }
        Matcher method = Pattern.compile("(?m)^( +)(?:public |private )?(?:static )?[\\w\\[\\]]+ \\w+\\([^;{]*\\) \\{\n(?s:(.*?))\n\\1\\}").matcher(bare);
        int many = 0;
        while (method.find()) {
            many++;
            String first = method.group().split("\n")[0].trim();
            due.is(first + " is short", method.group(2).split("\n").length <= 60 ? 1 : 0, 1);
        }
        due.is("methods were seen", many > 80 ? 1 : 0, 1);
    }
}
