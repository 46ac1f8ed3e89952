import java.lang.reflect.Constructor;
import java.lang.reflect.Field;
import java.lang.reflect.Method;
import java.lang.reflect.Modifier;
import java.io.IOException;
import java.nio.file.Files;
import java.nio.file.Path;
import java.util.ArrayList;
import java.util.Arrays;
import java.util.List;
import java.util.TreeSet;
import java.util.regex.Matcher;
import java.util.regex.Pattern;

/** The public face, member by member, and what LANGUAGE.md rules out, as far as it shows. */
public final class FaceTest {
    private static final Path SOURCE = Path.of("src/main/java/UpperFloors.java");

    public static void main(String[] args) throws IOException {
        face();
        constants();
        inner();
        words();
        shapes();
        Check.end();
    }

    private static void face() {
        TreeSet<String> due = new TreeSet<>();
        for (int i = 0; i < Calls.NAMES.length; i++) {
            String type = Calls.NAMES[i].equals("odds") ? "long" : "int";
            due.add(type + " " + Calls.NAMES[i] + "(" + Calls.SIZES[i] + ")");
        }
        TreeSet<String> got = new TreeSet<>();
        TreeSet<String> publicNames = new TreeSet<>();
        for (Method m : UpperFloors.class.getDeclaredMethods()) {
            if (Modifier.isPrivate(m.getModifiers())) continue;
            got.add(m.getReturnType() + " " + m.getName() + "(" + m.getParameterCount() + ")");
            publicNames.add(m.getName());
            Check.holds(m + " is public", Modifier.isPublic(m.getModifiers()) && !Modifier.isStatic(m.getModifiers()));
            for (Class<?> type : m.getParameterTypes()) Check.holds(m + " takes ints", type == int.class);
        }
        Check.holds("methods " + got, got.equals(due));
        for (Method m : UpperFloors.class.getDeclaredMethods()) {
            if (Modifier.isPrivate(m.getModifiers())) Check.holds(m + " bears a public name", !publicNames.contains(m.getName()));
        }
        Constructor<?>[] made = UpperFloors.class.getDeclaredConstructors();
        Check.holds("one public constructor", made.length == 1 && made[0].getParameterCount() == 0
            && Modifier.isPublic(made[0].getModifiers()));
        Check.holds("public and final", Modifier.isPublic(UpperFloors.class.getModifiers())
            && Modifier.isFinal(UpperFloors.class.getModifiers()));
    }

    private static void constants() {
        Check.due("NONE", UpperFloors.NONE, -1);
        Check.due("BAD", UpperFloors.BAD, -2);
        Check.due("STATE", UpperFloors.STATE, -3);
        Check.due("FULL", UpperFloors.FULL, -4);
        Check.due("NO", UpperFloors.NO, Long.MIN_VALUE / 2);
        List<String> names = new ArrayList<>();
        for (Field f : UpperFloors.class.getDeclaredFields()) {
            if (!Modifier.isPrivate(f.getModifiers())) names.add(f.getName() + " " + f.getType());
            boolean both = Modifier.isStatic(f.getModifiers()) && !Modifier.isFinal(f.getModifiers());
            Check.holds(f + " is no static state", !both);
        }
        Check.holds("constants " + names, new TreeSet<>(names).equals(
            new TreeSet<>(List.of("NONE int", "BAD int", "STATE int", "FULL int", "NO long"))));
    }

    private static void inner() {
        Class<?>[] all = UpperFloors.class.getDeclaredClasses();
        Check.holds("some twelve classes", all.length < 15);
        for (Class<?> c : all) {
            int m = c.getModifiers();
            Check.holds(c + " is static, and not public", Modifier.isStatic(m) && !Modifier.isPublic(m) && !Modifier.isProtected(m));
            long fields = Arrays.stream(c.getDeclaredFields()).filter(f -> !Modifier.isStatic(f.getModifiers())).count();
            Check.holds(c + " has few fields", fields <= 20);
            for (Method method : c.getDeclaredMethods()) {
                Check.holds(method + " takes at most seven", method.getParameterCount() <= 7);
            }
        }
    }

    private static void words() throws IOException {
        String code = code();
        String[] out = {"throw", "try", "catch", "synchronized", "assert", "package", "protected", "volatile", "native", "Object",
            "hashCode", "System\\.(?!arraycopy)\\w+", "\\w+Exact", "Math\\.random", "Arrays\\.(?!copyOf|copyOfRange|fill)\\w+",
            "import\\s+(?!java\\.util\\.(ArrayList|List|Arrays|Iterator);)", "::"};
        for (String word : out) {
            Matcher m = Pattern.compile(word.matches("\\w+") ? "\\b" + word + "\\b" : word).matcher(code);
            Check.holds("no " + word, !m.find());
        }
        // An arrow stands in a switch alone, never in a lambda.
        Check.holds("no lambda", !code.replaceAll("(case [^;{}]*?|default *)->", "").contains("->"));
        for (char c : Files.readString(SOURCE).toCharArray()) if (c > 126) Check.holds("plain signs alone", false);
    }

    /** The source without comments and texts. */
    private static String code() throws IOException {
        return Files.readString(SOURCE).replaceAll("(?s)/\\*.*?\\*/", "").replaceAll("//[^\n]*", "").replaceAll("\"[^\"]*\"", "\"\"");
    }

    private static void shapes() throws IOException {
        int start = -1;
        int number = 0;
        for (String line : Files.readAllLines(SOURCE)) {
            number++;
            if (line.matches("    (    )?(public|private|static|int|boolean|void|long|[A-Z]\\w*)\\b.*\\) \\{")) start = number;
            if (start > 0 && line.matches("    (    )?\\}")) {
                Check.holds("the method of line " + start + " is short", number - start <= 65);
                start = -1;
            }
        }
    }
}
