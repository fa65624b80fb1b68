import java.io.IOException;
import java.lang.reflect.Constructor;
import java.lang.reflect.Field;
import java.lang.reflect.Method;
import java.lang.reflect.Modifier;
import java.nio.file.Files;
import java.nio.file.Path;
import java.util.List;
import java.util.Set;
import java.util.TreeSet;
import java.util.regex.Matcher;
import java.util.regex.Pattern;

/** The face of the document, and those rules of LANGUAGE.md that a search can see. Run from the checkout. */
public final class SourceTest {
    private static final Path SOURCE = Path.of("src/main/java/Loomkeeper.java");
    private static final Path DOCUMENT = Path.of("../shared/DOC.md");

    private static final String[] RULED_OUT = {
        "->", "::", "\\bcatch\\b", "\\bfinally\\b", "\\bsynchronized\\b", "\\bassert\\b", "\\brecord\\b",
        "\\bMath\\.\\w+Exact\\b", "\\bNaN\\b", "\\bequals\\b|\\bhashCode\\b|\\btoString\\b", "\\bstatic \\{",
        "\\bSystem\\.(?!arraycopy)", "\\bRandom\\b", "\\bThread\\b", "\\bnanoTime\\b", "\\bprotected\\b",
        "\\bString\\b", "\\bdouble\\b|\\bfloat\\b", "\\bsuper\\b", "\\bextends\\b", "^package\\b",
    };

    public static void main(String[] args) throws IOException {
        List<String> lines = Files.readAllLines(SOURCE);
        for (String rule : RULED_OUT) {
            Pattern pattern = Pattern.compile(rule);
            for (int i = 0; i < lines.size(); i++) {
                boolean found = !isComment(lines.get(i)) && pattern.matcher(lines.get(i)).find();
                Due.is("line " + (i + 1) + " has " + rule, found, false);
            }
        }
        for (String line : lines) {
            boolean isImport = line.startsWith("import ");
            Due.is(line, isImport && !line.equals("import java.util.ArrayList;"), false);
            Due.is("plain text: " + line, line.chars().allMatch(c -> c > 0 && c < 128), true);
        }
        lengths(lines);
        face();
        Due.end();
    }

    private static boolean isComment(String line) {
        String text = line.trim();
        return text.startsWith("*") || text.startsWith("/*") || text.startsWith("//");
    }

    private static void lengths(List<String> lines) {
        String end = null;
        int start = 0;
        for (int i = 0; i < lines.size(); i++) {
            String line = lines.get(i);
            String indent = line.substring(0, line.length() - line.stripLeading().length());
            boolean member = indent.length() == 4 || indent.length() == 8;
            if (end == null && member && line.endsWith(") {") && !line.contains(" class ")) {
                end = indent + "}";
                start = i;
            } else if (line.equals(end)) {
                Due.is("method at line " + (start + 1) + " is long", i - start > 62, false);
                end = null;
            }
        }
    }

    /** The public members are those of the document, exceptions included, and nothing else is seen. */
    private static void face() throws IOException {
        Set<String> due = new TreeSet<>();
        Pattern method = Pattern.compile("    public (\\w+) (\\w+)\\((.*)\\)( throws (.*))?;");
        for (String line : Files.readAllLines(DOCUMENT)) {
            Matcher m = method.matcher(line);
            if (m.matches()) {
                String thrown = m.group(5) == null ? "" : m.group(5).replace(" ", "");
                String parameters = m.group(3).replaceAll(" \\w+(,|$)", "$1").replace(" ", "");
                due.add(m.group(1) + " " + m.group(2) + "/" + parameters + " " + thrown);
            }
        }
        Due.is("methods of the document", due.size(), 23);
        Set<String> got = new TreeSet<>();
        Set<String> names = new TreeSet<>();
        for (Method m : Loomkeeper.class.getDeclaredMethods()) {
            if (Modifier.isPublic(m.getModifiers())) {
                names.add(m.getName());
                got.add(m.getReturnType() + " " + m.getName() + "/" + list(m.getParameterTypes())
                    + " " + list(m.getExceptionTypes()));
            } else {
                Due.is(m + " is private", Modifier.isPrivate(m.getModifiers()), true);
            }
        }
        Due.is("the face is " + got + ", due is " + due, got.equals(due), true);
        hidden(names);
    }

    private static void hidden(Set<String> names) {
        for (Constructor<?> c : Loomkeeper.class.getDeclaredConstructors()) {
            Due.is(c + " is public", Modifier.isPublic(c.getModifiers()) && c.getParameterCount() == 0, true);
        }
        for (Field f : Loomkeeper.class.getDeclaredFields()) {
            Due.is(f + " is private", Modifier.isPrivate(f.getModifiers()), true);
        }
        Class<?>[] inside = Loomkeeper.class.getDeclaredClasses();
        Due.is("classes in the file", inside.length + 1 <= 12, true);
        for (Class<?> c : inside) {
            Due.is(c + " is static", Modifier.isStatic(c.getModifiers()), true);
            int fields = 0;
            for (Field f : c.getDeclaredFields()) {
                fields += Modifier.isStatic(f.getModifiers()) ? 0 : 1;
            }
            Due.is(c + " has " + fields + " fields", fields <= 20, true);
            for (Method m : c.getDeclaredMethods()) {
                Due.is(m + " bears a name of the face", names.contains(m.getName()), false);
                Due.is(m + " has few parameters", m.getParameterCount() <= 7, true);
            }
        }
    }

    private static String list(Class<?>[] types) {
        StringBuilder all = new StringBuilder();
        for (Class<?> t : types) {
            all.append(all.length() == 0 ? "" : ",").append(t.getSimpleName());
        }
        return all.toString();
    }
}
