import java.io.IOException;
import java.lang.reflect.Method;
import java.net.URL;
import java.net.URLClassLoader;
import java.nio.file.DirectoryStream;
import java.nio.file.Files;
import java.nio.file.Path;
import java.util.ArrayList;
import java.util.Arrays;
import java.util.Comparator;
import java.util.List;
import java.util.TreeSet;
import java.util.regex.Matcher;
import java.util.regex.Pattern;
import javax.tools.ToolProvider;

/** README.md: each call that it shows answers as it says there; it names every call, every refusal and every test. */
public final class ReadmeTest {
    private static final Pattern SHOWN = Pattern.compile("\\s*((?:x\\.|text\\(x, ).*\\));\\s*// (-?\\d+|UpperFloors\\.\\w+)\\b.*");
    private static String page;

    public static void main(String[] args) throws Exception {
        page = Files.readString(Path.of("README.md"));
        shown();
        groups();
        constants();
        tests();
        Check.end();
    }

    /** The page's Java is made into a class, each of its lines of a call into one that keeps the answer and what is due. */
    private static void shown() throws Exception {
        StringBuilder members = new StringBuilder();
        StringBuilder runs = new StringBuilder();
        Matcher block = Pattern.compile("(?s)```java\\n(.*?)```").matcher(page);
        int lines = 0;
        while (block.find()) {
            if (block.group(1).startsWith("static")) {
                members.append(block.group(1));
                continue;
            }
            runs.append("{\n");
            for (String line : block.group(1).split("\n")) {
                Matcher m = SHOWN.matcher(line);
                boolean call = m.matches();
                Check.holds("'" + line + "' shows an answer", call || line.equals("UpperFloors x = new UpperFloors();"));
                if (call) lines++;
                runs.append(call ? "got.add((long) " + m.group(1) + "); due.add((long) " + m.group(2) + ");" : line).append('\n');
            }
            runs.append("}\n");
        }
        Check.holds("some lines are shown", lines > 60);
        List<Long> got = new ArrayList<>();
        List<Long> due = new ArrayList<>();
        run("public final class Shown {\n" + members + "public static void run(java.util.List<Long> got, java.util.List<Long> due) {\n"
            + runs + "}\n}\n", got, due);
        Check.due("answers", got.size(), lines);
        List<String> calls = page.lines().filter(line -> SHOWN.matcher(line).matches()).toList();
        for (int i = 0; i < got.size() && i < calls.size(); i++) Check.due("'" + calls.get(i).strip() + "'", got.get(i), due.get(i));
    }

    private static void run(String source, List<Long> got, List<Long> due) throws Exception {
        Path place = Files.createTempDirectory("readme");
        try {
            Path file = Files.writeString(place.resolve("Shown.java"), source);
            int wrong = ToolProvider.getSystemJavaCompiler().run(null, null, null, "-proc:none", "-cp",
                System.getProperty("java.class.path"), "-d", place.toString(), file.toString());
            Check.due("the page's Java is Java", wrong, 0);
            if (wrong != 0) return;
            try (URLClassLoader loader = new URLClassLoader(new URL[] {place.toUri().toURL()})) {
                Method run = loader.loadClass("Shown").getMethod("run", List.class, List.class);
                run.invoke(null, got, due);
            }
        } finally {
            try (var all = Files.walk(place)) {
                for (Path p : all.sorted(Comparator.reverseOrder()).toList()) Files.delete(p);
            }
        }
    }

    /** The groups are the document's heads, each with the calls that stand behind it there. */
    private static void groups() throws IOException {
        List<String> named = new ArrayList<>();
        String document = Files.readString(Path.of("../shared/DOC.md"));
        Matcher told = Pattern.compile("Ahead of the calls (.*?) the interface says: ---- (.*?)\\.\\n").matcher(document);
        while (told.find()) {
            String calls = told.group(1).replace(",", "");
            Check.holds("the group " + told.group(2), page.contains("| " + told.group(2) + " | " + calls + " |"));
            named.addAll(List.of(calls.replace("`", "").split(" ")));
        }
        Check.holds("all calls are in groups", named.equals(Arrays.asList(Calls.NAMES)));
    }

    private static void constants() {
        String[] names = {"NONE", "BAD", "STATE", "FULL"};
        for (int i = 0; i < names.length; i++) Check.holds(names[i], page.contains("| " + (-1 - i) + " | `" + names[i] + "` |"));
        for (int answer : new int[] {-5, -7, -11, -12, -13, -14}) Check.holds("" + answer, page.contains("| " + answer + " | |"));
    }

    /** Each test has its row, and each row its test. */
    private static void tests() throws IOException {
        TreeSet<String> there = new TreeSet<>();
        try (DirectoryStream<Path> files = Files.newDirectoryStream(Path.of("src/test/java"), "*Test.java")) {
            for (Path file : files) there.add(file.getFileName().toString().replace(".java", ""));
        }
        TreeSet<String> told = new TreeSet<>();
        for (Matcher m = Pattern.compile("(?m)^\\| (\\w+Test) \\|").matcher(page); m.find(); ) told.add(m.group(1));
        Check.holds("tests " + told + " are " + there, told.equals(there));
    }
}
