import java.io.IOException;
import java.lang.reflect.Constructor;
import java.lang.reflect.Field;
import java.lang.reflect.Method;
import java.lang.reflect.Modifier;
import java.nio.file.Files;
import java.nio.file.Path;
import java.util.ArrayList;
import java.util.Arrays;
import java.util.List;
import java.util.TreeSet;
import java.util.regex.Matcher;
import java.util.regex.Pattern;

/** The public face, member by member, as it is compiled and as it stands in the document and in the source. */
public final class FaceTest {
    private static final Path SOURCE = Path.of("src/main/java/UpperFloors.java");
    private static final Path DOCUMENT = Path.of("../shared/DOC.md");

    public static void main(String[] args) throws IOException {
        face();
        constants();
        asTheDocument();
        heads();
        Check.end();
    }

    private static void face() {
        TreeSet<String> due = new TreeSet<>();
        for (int i = 0; i < Calls.NAMES.length; i++) {
            String type = Calls.NAMES[i].equals("odds") ? "long" : "int";
            due.add(type + " " + Calls.NAMES[i] + "(" + Calls.SIZES[i] + ")");
        }
        TreeSet<String> got = new TreeSet<>();
        for (Method m : UpperFloors.class.getDeclaredMethods()) {
            if (Modifier.isPrivate(m.getModifiers())) continue;
            got.add(m.getReturnType() + " " + m.getName() + "(" + m.getParameterCount() + ")");
            Check.holds(m + " is public", Modifier.isPublic(m.getModifiers()) && !Modifier.isStatic(m.getModifiers()));
            for (Class<?> type : m.getParameterTypes()) Check.holds(m + " takes ints", type == int.class);
        }
        Check.holds("methods " + got, got.equals(due));
        Constructor<?>[] made = UpperFloors.class.getDeclaredConstructors();
        Check.holds("one public constructor", made.length == 1 && made[0].getParameterCount() == 0
            && Modifier.isPublic(made[0].getModifiers()));
        Check.holds("public and final", Modifier.isPublic(UpperFloors.class.getModifiers())
            && Modifier.isFinal(UpperFloors.class.getModifiers()));
    }

    private static void constants() {
        Check.due("NONE", UpperFloors.NONE, -1);
        Check.due("BAD", UpperFloors.BAD, -2);
        Check.due("STATE", UpperFloors.STATE, -3);
        Check.due("FULL", UpperFloors.FULL, -4);
        Check.due("NO", UpperFloors.NO, Long.MIN_VALUE / 2);
        List<String> names = new ArrayList<>();
        for (Field f : UpperFloors.class.getDeclaredFields()) {
            if (!Modifier.isPrivate(f.getModifiers())) names.add(f.getName() + " " + f.getType());
        }
        Check.holds("constants " + names, new TreeSet<>(names).equals(
            new TreeSet<>(List.of("NONE int", "BAD int", "STATE int", "FULL int", "NO long"))));
    }

    /** "just as they stand there": each line of the document's face, with its numbers' names, in its order, and no other. */
    private static void asTheDocument() throws IOException {
        Matcher block = Pattern.compile("(?s)```java\n(.*?)```").matcher(Files.readString(DOCUMENT));
        Check.holds("the document has a face", block.find());
        List<String> due = new ArrayList<>();
        for (String line : block.group(1).split("\n")) if (line.contains("public")) due.add(plain(line));
        List<String> got = new ArrayList<>();
        for (String line : Files.readAllLines(SOURCE)) if (line.strip().startsWith("public")) got.add(plain(line));
        Check.due("lines of the face", got.size(), due.size());
        for (int i = 0; i < due.size() && i < got.size(); i++) {
            Check.holds("'" + got.get(i) + "' stands there as '" + due.get(i) + "'", got.get(i).equals(due.get(i)));
        }
        // Calls.NAMES stand in the document's order, too, so that no test leaves one out.
        List<String> calls = new ArrayList<>();
        for (String line : due) if (line.matches("public (int|long) .*")) calls.add(line.replaceAll("public \\w+ (\\w+).*", "$1"));
        Check.holds("calls " + calls, calls.equals(Arrays.asList(Calls.NAMES)));
    }

    private static String plain(String line) {
        return line.replaceAll("[;{]\\s*$", "").strip();
    }

    /** "Ahead of the calls .. the interface says: ---- ..": these heads, ahead of these calls. */
    private static void heads() throws IOException {
        String source = Files.readString(SOURCE);
        Matcher told = Pattern.compile("Ahead of the calls `(\\w+)`.*? says: (---- .*?)\\.\n").matcher(Files.readString(DOCUMENT));
        int many = 0;
        while (told.find()) {
            many++;
            String due = "// " + told.group(2) + "\n\n    public ";
            Matcher head = Pattern.compile(Pattern.quote(due) + "\\w+ " + told.group(1) + "\\(").matcher(source);
            Check.holds(told.group(2) + " stands ahead of " + told.group(1), head.find());
        }
        Check.due("heads", many, 8);
    }
}
