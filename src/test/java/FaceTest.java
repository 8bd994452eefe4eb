import java.io.IOException;
import java.lang.reflect.Constructor;
import java.lang.reflect.Field;
import java.lang.reflect.Method;
import java.lang.reflect.Modifier;
import java.nio.file.Files;
import java.nio.file.Path;
import java.util.ArrayList;
import java.util.Arrays;
import java.util.HashSet;
import java.util.List;
import java.util.Set;
import java.util.TreeSet;
import java.util.regex.Matcher;
import java.util.regex.Pattern;

/** The public face is the document's, and the file keeps to rules of LANGUAGE.md that can be read off it. */
public final class FaceTest {
    private static final Path SOURCE = Path.of("src/main/java/LastAsked.java");
    private static final Path DOC = Path.of("../shared/DOC.md");

    private static String plain(String type) {
        return type.trim().replaceAll("\\s+", " ");
    }

    /** As 'long odds(int,int,boolean)'. */
    private static Set<String> promised() throws IOException {
        Set<String> set = new TreeSet<>();
        String doc = Files.readString(DOC);
        String face = doc.substring(doc.indexOf("```java"), doc.indexOf("```\n", doc.indexOf("```java") + 7));
        Matcher m = Pattern.compile("public (\\w+) (\\w+)\\(([^)]*)\\)").matcher(face);
        while (m.find()) {
            List<String> types = new ArrayList<>();
            for (String parameter : m.group(3).split(",")) {
                if (!parameter.isBlank()) {
                    types.add(plain(parameter).split(" ")[0]);
                }
            }
            set.add(m.group(1) + " " + m.group(2) + "(" + String.join(",", types) + ")");
        }
        return set;
    }

    private static Set<String> built() {
        Set<String> set = new TreeSet<>();
        for (Method m : LastAsked.class.getDeclaredMethods()) {
            if (!Modifier.isPrivate(m.getModifiers())) {
                List<String> types = Arrays.stream(m.getParameterTypes()).map(Class::getSimpleName).toList();
                String sort = Modifier.isPublic(m.getModifiers()) && !Modifier.isStatic(m.getModifiers()) ? "" : "not public ";
                set.add(sort + m.getReturnType().getSimpleName() + " " + m.getName() + "(" + String.join(",", types) + ")");
            }
        }
        return set;
    }

    private static void face(Due due) throws IOException {
        Set<String> lacking = promised();
        due.is("methods promised", lacking.size(), 50);
        lacking.removeAll(built());
        due.is("methods lacking " + lacking, lacking.size(), 0);
        Set<String> over = built();
        over.removeAll(promised());
        due.is("methods over " + over, over.size(), 0);
        due.is("final", Modifier.isFinal(LastAsked.class.getModifiers()), true);
        due.is("public", Modifier.isPublic(LastAsked.class.getModifiers()), true);
        Constructor<?>[] makers = LastAsked.class.getDeclaredConstructors();
        due.is("one constructor", makers.length, 1);
        due.is("it is public", Modifier.isPublic(makers[0].getModifiers()), true);
        due.is("NONE", LastAsked.NONE, -1);
        for (Field f : LastAsked.class.getDeclaredFields()) {
            due.is("field " + f.getName(), Modifier.isPrivate(f.getModifiers()), !f.getName().equals("NONE"));
        }
        for (Class<?> c : LastAsked.class.getDeclaredClasses()) {
            due.is("class " + c.getSimpleName(), Modifier.isPrivate(c.getModifiers()) && Modifier.isStatic(c.getModifiers()), true);
        }
    }

    /** No method of a class inside, and no private one, bears the name of a public one. */
    private static void names(Due due) {
        Set<String> open = new HashSet<>();
        Set<String> hidden = new HashSet<>();
        for (Method m : LastAsked.class.getDeclaredMethods()) {
            (Modifier.isPublic(m.getModifiers()) ? open : hidden).add(m.getName());
        }
        for (Class<?> c : LastAsked.class.getDeclaredClasses()) {
            for (Method m : c.getDeclaredMethods()) {
                hidden.add(m.getName());
            }
            due.is("fields of " + c.getSimpleName(), instanceFields(c) <= 20, true);
        }
        due.is("fields", instanceFields(LastAsked.class) <= 20, true);
        hidden.retainAll(open);
        due.is("names borne twice " + hidden, hidden.size(), 0);
    }

    private static long instanceFields(Class<?> c) {
        return Arrays.stream(c.getDeclaredFields()).filter(f -> !Modifier.isStatic(f.getModifiers())).count();
    }

    private static void source(Due due) throws IOException {
        String text = Files.readString(SOURCE);
        String code = text.replaceAll("(?s)/\\*.*?\\*/", "").replaceAll("//[^\n]*", "");
        String[] ruledOut = {"->", "::", "\\btry\\b", "\\bcatch\\b", "\\bfinally\\b", "\\bsynchronized\\b", "\\bassert\\b",
            "\\bnull\\b", "\\bpackage\\b", "\\bdouble\\b", "\\bfloat\\b", "\\bvar\\b", "Exact", "\\.\\.\\.", "\"", "\\bstatic \\{"};
        for (String one : ruledOut) {
            due.is("the file has " + one, Pattern.compile(one).matcher(code).find(), false);
        }
        Matcher imports = Pattern.compile("import ([\\w.*]+);").matcher(code);
        while (imports.find()) {
            due.is("import " + imports.group(1), imports.group(1).equals("java.util.NoSuchElementException"), true);
        }
        Matcher library = Pattern.compile("\\b(System|Math|Integer|Long|Arrays)\\.(\\w+)").matcher(code);
        Set<String> allowed = Set.of("System.arraycopy", "Math.min", "Math.max", "Integer.bitCount");
        while (library.find()) {
            due.is("library " + library.group(), allowed.contains(library.group()), true);
        }
        Matcher throwing = Pattern.compile("throw new (\\w+)").matcher(code);
        int throwCount = 0;
        while (throwing.find()) {
            throwCount++;
            due.is("throws " + throwing.group(1), throwing.group(1).equals("NoSuchElementException"), true);
        }
        due.is("throws", throwCount, 1);
        due.is("signs 1 to 127", text.chars().allMatch(c -> c >= 1 && c <= 127), true);
    }

    public static void main(String[] args) throws IOException {
        Due due = new Due();
        face(due);
        names(due);
        source(due);
        due.end();
    }
}
