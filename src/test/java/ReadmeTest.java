import java.io.IOException;
import java.lang.reflect.InvocationTargetException;
import java.lang.reflect.Method;
import java.lang.reflect.Modifier;
import java.nio.file.Files;
import java.nio.file.Path;
import java.util.regex.Matcher;
import java.util.regex.Pattern;

/** README.md tells the truth: its calls answer what stands behind them, and its tables leave nothing out. */
public final class ReadmeTest {
    private static final Path README = Path.of("README.md");
    private static final Pattern BLOCK = Pattern.compile("(?s)```java\n(.*?)```");
    private static final Pattern STEP = Pattern.compile(
        "tell\\(x, (\"[^\"]*\"(?:\\s*\\+\\s*\"[^\"]*\")*)\\);|(?m:^x\\.(\\w+)\\((.*)\\);\\s+// (.+)$)");

    private final Due due = new Due();
    private final String text;
    private int calls = 0;

    private ReadmeTest() throws IOException {
        text = Files.readString(README);
    }

    /** Each block that makes an object is a run of calls of its own. */
    private void examples() throws ReflectiveOperationException {
        Matcher block = BLOCK.matcher(text);
        while (block.find()) {
            if (block.group(1).startsWith("LastAsked x = new LastAsked();")) {
                example(block.group(1));
            }
        }
        due.is("calls in examples", calls > 20, true);
    }

    private void example(String lines) throws ReflectiveOperationException {
        LastAsked x = new LastAsked();
        int steps = 1;
        Matcher step = STEP.matcher(lines);
        while (step.find()) {
            steps += step.group().split("\n").length;
            if (step.group(1) != null) {
                Due.feedAll(x, step.group(1).replaceAll("\"\\s*\\+\\s*\"", "").replace("\"", ""));
            } else {
                calls++;
                String call = "README: " + step.group();
                due.is(call, answer(x, step.group(2), step.group(3)).equals(step.group(4).trim()), true);
            }
        }
        due.is("README: lines that are run of\n" + lines, steps, lines.split("\n").length);
    }

    private static String answer(LastAsked x, String name, String arguments) throws ReflectiveOperationException {
        String[] given = arguments.isEmpty() ? new String[0] : arguments.split(", ");
        Method method = method(name, given.length);
        Object[] values = new Object[given.length];
        for (int i = 0; i < given.length; i++) {
            values[i] = value(x, given[i]);
        }
        try {
            String got = method.invoke(x, values).toString();
            return got.equals("-1") ? "NONE" : got;
        } catch (InvocationTargetException e) {
            return "throws " + e.getCause().getClass().getSimpleName();
        }
    }

    private static Method method(String name, int parameters) throws NoSuchMethodException {
        for (Method m : LastAsked.class.getMethods()) {
            if (m.getName().equals(name) && m.getParameterCount() == parameters) {
                return m;
            }
        }
        throw new NoSuchMethodException(name);
    }

    private static Object value(LastAsked x, String given) {
        if (given.equals("true") || given.equals("false")) {
            return given.equals("true");
        }
        return given.equals("x.size(12)") ? x.size(12) : Integer.parseInt(given);
    }

    /** The method that README.md gives to its reader does what the tests' own one does. */
    private void tell() throws IOException {
        String body = text.substring(text.indexOf("static void tell("), text.indexOf("```", text.indexOf("static void tell(")));
        String own = Files.readString(Path.of("src/test/java/ReadmeTest.java"));
        due.is("README: tell is run here", plain(own).contains(plain(body)), true);
        for (String one : new String[] {"", "c", "city hour 9 gives 1;", NowTest.BASE, NowTest.BASE + ";went ?"}) {
            LastAsked x = new LastAsked();
            LastAsked y = new LastAsked();
            tell(x, one);
            Due.feedAll(y, one);
            due.is("README: bytes told of '" + one + "'", x.size(12), y.size(12));
            due.is("README: city told by '" + one + "'", x.city(one.length()), y.city(one.length()));
            due.is("README: where() of '" + one + "'", x.where(), y.where());
        }
    }

    static void tell(LastAsked x, String text) {
        for (int at = 0; at < text.length(); at += 20) {
            int[] five = new int[5];
            for (int i = 0; i < 20; i++) {
                int sign = at + i < text.length() ? text.charAt(at + i) : ' ';
                five[i / 4] = five[i / 4] << 8 | sign;
            }
            x.feed(five[0], five[1], five[2], five[3], five[4]);
        }
    }

    private static String plain(String code) {
        return code.replaceAll("\\s+", " ").trim();
    }

    private void tables() {
        for (Method m : LastAsked.class.getDeclaredMethods()) {
            if (Modifier.isPublic(m.getModifiers())) {
                Pattern row = Pattern.compile("(?m)^\\| [^|]*`" + m.getName() + "`[^|]*\\| [^|]* \\|$");
                due.is("README: a table has " + m.getName(), row.matcher(text).find(), true);
            }
        }
        rows("FAULT", 7);
        rows("TROUBLE", 6);
        for (String line : new String[] {"city hour", "person", "near", "asked", "heard", "went"}) {
            due.is("README: a table has the LINE " + line, text.contains("\n| `" + line + " "), true);
        }
    }

    /** A table of this head has the rows 1 to last. */
    private void rows(String head, int last) {
        int from = text.indexOf("| " + head + " |");
        String table = from < 0 ? "" : text.substring(from, text.indexOf("\n\n", from));
        for (int i = 1; i <= last + 1; i++) {
            due.is("README: " + head + " " + i, table.contains("\n| " + i + " |"), i <= last);
        }
    }

    private void tests() throws IOException {
        try (var files = Files.list(Path.of("src/test/java"))) {
            for (Path file : files.toList()) {
                String name = file.getFileName().toString().replace(".java", "");
                if (name.endsWith("Test")) {
                    due.is("README: it names " + name, text.contains("`" + name + "`"), true);
                }
            }
        }
        due.is("README: it names .ci/run", text.contains("```sh\n.ci/run\n```"), true);
    }

    public static void main(String[] args) throws IOException, ReflectiveOperationException {
        ReadmeTest test = new ReadmeTest();
        test.examples();
        test.tell();
        test.tables();
        test.tests();
        test.due.end();
    }
}
