import java.io.ByteArrayOutputStream;
import java.io.PrintStream;
import java.lang.reflect.Method;
import java.lang.reflect.Modifier;
import java.net.URL;
import java.net.URLClassLoader;
import java.nio.file.Files;
import java.nio.file.Path;
import java.util.ArrayList;
import java.util.List;
import java.util.Map;
import java.util.TreeMap;
import java.util.regex.Matcher;
import java.util.regex.Pattern;
import javax.tools.ToolProvider;

/** What README.md tells of the class is so: its example, its tables of clauses, words, FAULTS and calls. */
public final class ReadmeTest {
    private static final int NOT_TOLD = -1;
    private static final Pattern SHOWN = Pattern.compile("println\\((.*)\\);\\s+// (-?\\d+): .*");
    private static final Pattern CALL = row("`(\\w+)\\(([^)]*)\\)` \\| .*");
    private static final Pattern CLAUSE = row("`((?:need|deaf|proud|talk)[ 0-9]+)` \\| .*");
    private static final Pattern WORD = row("`([a-z]+)` \\| .*");
    private static final Pattern FAULT = row("(\\d) \\| [^|]* \\| `([^`]+)` \\| (-\\d+) \\|");

    /** A row of a table whose first cell begins like this. */
    private static Pattern row(String rest) {
        return Pattern.compile("^\\| " + rest, Pattern.MULTILINE);
    }

    public static void main(String[] args) throws Exception {
        String page = Files.readString(Path.of("README.md"));
        example(page);
        calls(page);
        clauses(page);
        words(page);
        faults(page);
        named(page);
        Check.finish();
    }

    /** The example is compiled as it stands; each answer it prints is the one told beside it. */
    private static void example(String page) throws Exception {
        Check c = new Check("README, the example");
        String code = page.substring(page.indexOf("```java\n") + 8, page.indexOf("\n```\n"));
        List<String> told = new ArrayList<>();
        List<String> due = new ArrayList<>();
        for (Matcher m = SHOWN.matcher(code); m.find();) {
            told.add(m.group(1));
            due.add(m.group(2));
        }
        List<String> got = printedBy(code).lines().toList();
        c.due("answers told", due.size(), code.split("println").length - 1);
        c.due("answers printed", got.size(), due.size());
        for (int i = 0; i < Math.min(got.size(), due.size()); i++) {
            c.due(told.get(i), Integer.parseInt(got.get(i)), Integer.parseInt(due.get(i)));
        }
    }

    private static String printedBy(String code) throws Exception {
        Path dir = Files.createTempDirectory("readme");
        Path source = Files.writeString(dir.resolve("Example.java"), code);
        String path = System.getProperty("java.class.path");
        int failed = ToolProvider.getSystemJavaCompiler().run(null, null, null,
                "-proc:none", "-cp", path, "-d", dir.toString(), source.toString());
        if (failed != 0) {
            return "";
        }
        ByteArrayOutputStream bytes = new ByteArrayOutputStream();
        PrintStream before = System.out;
        try (URLClassLoader loader = new URLClassLoader(new URL[] {dir.toUri().toURL()})) {
            System.setOut(new PrintStream(bytes, true));
            Method main = loader.loadClass("Example").getMethod("main", String[].class);
            main.invoke(null, (Object) new String[0]);
        } finally {
            System.setOut(before);
            Files.deleteIfExists(dir.resolve("Example.class"));
            Files.deleteIfExists(source);
            Files.deleteIfExists(dir);
        }
        return bytes.toString();
    }

    /** Every call of the face is told once, with as many arguments as it takes. */
    private static void calls(String page) {
        Check c = new Check("README, the calls");
        Map<String, Integer> told = new TreeMap<>();
        for (Matcher m = CALL.matcher(page); m.find();) {
            int many = m.group(2).isEmpty() ? 0 : m.group(2).split(", ").length;
            c.due(m.group(1) + " is told once", told.put(m.group(1), many) == null ? 1 : 0, 1);
        }
        int face = 0;
        for (Method m : TwoMouths.class.getDeclaredMethods()) {
            if (Modifier.isPublic(m.getModifiers())) {
                face++;
                c.due(m.getName(), told.getOrDefault(m.getName(), NOT_TOLD), m.getParameterCount());
            }
        }
        c.due("no other call is told", told.size(), face);
    }

    private static void clauses(String page) {
        int many = 0;
        for (Matcher m = CLAUSE.matcher(page); m.find(); many++) {
            new Check("README, a clause").town(m.group(1), m.group(1).startsWith("talk") ? 1 : 0);
        }
        new Check("README").due("kinds of clauses", many, 4);
    }

    private static void words(String page) {
        int many = 0;
        for (Matcher m = WORD.matcher(page); m.find(); many++) {
            new Check("README, a word").law("tell " + m.group(1) + " = 0", 0);
        }
        new Check("README").due("words", many, 9);
    }

    private static void faults(String page) {
        int kinds = 0;
        for (Matcher m = FAULT.matcher(page); m.find();) {
            Check c = new Check("README, a fault");
            int answer = Integer.parseInt(m.group(3));
            if (m.group(2).startsWith("tell")) {
                c.law(m.group(2), answer);
            } else {
                c.town(m.group(2), answer);
            }
            c.due("its kind", (-3 - answer) % 8, Integer.parseInt(m.group(1)));
            kinds |= 1 << Integer.parseInt(m.group(1));
        }
        new Check("README").due("kinds of faults shown", kinds, 7);
    }

    /** The page says what NONE and -2 mean, how texts are told, and how the tests are run. */
    private static void named(String page) {
        Check c = new Check("README has");
        String[] heads = {"## What NONE and -2 mean", "## How a TOWN is told", "## How a LAW is told",
            "## FAULTS", "## What the calls answer", "## Tests", ".ci/run"};
        for (String head : heads) {
            c.due(head, page.contains(head) ? 1 : 0, 1);
        }
    }
}
