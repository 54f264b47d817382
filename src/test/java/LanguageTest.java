import java.io.IOException;
import java.lang.reflect.Field;
import java.lang.reflect.Method;
import java.lang.reflect.Modifier;
import java.nio.file.Files;
import java.nio.file.Path;
import java.util.ArrayList;
import java.util.Arrays;
import java.util.List;
import java.util.NoSuchElementException;
import java.util.Set;
import java.util.TreeSet;
import java.util.regex.Matcher;
import java.util.regex.Pattern;

/** The document's face, and those rules of LANGUAGE.md that can be seen from outside or in the text. */
public final class LanguageTest {
    private static int wrong = 0;

    public static void main(String[] args) throws IOException {
        face();
        classes();
        text(Files.readString(Path.of("src/main/java/ChairAlley.java")));
        System.out.println("LanguageTest: " + wrong + " rules broken");
        if (wrong != 0) {
            System.exit(1);
        }
    }

    private static void must(boolean holds, String rule) {
        if (!holds) {
            wrong++;
            System.out.println("broken: " + rule);
        }
    }

    private static void face() {
        List<String> due = new ArrayList<>();
        for (int i = 0; i < Face.NAMES.length; i++) {
            due.add(Face.NAMES[i] + Face.ARGUMENTS[i]);
        }
        List<String> have = new ArrayList<>();
        Set<String> names = new TreeSet<>(Arrays.asList(Face.NAMES));
        for (Method m : ChairAlley.class.getDeclaredMethods()) {
            if (Modifier.isPublic(m.getModifiers())) {
                have.add(m.getName() + m.getParameterCount());
                boolean throwsOne = m.getName().equals("chair") || m.getName().equals("cell");
                Class<?>[] none = {};
                must(Arrays.equals(m.getExceptionTypes(), throwsOne ? new Class<?>[] {NoSuchElementException.class} : none),
                    "what " + m.getName() + " throws");
            } else {
                must(Modifier.isPrivate(m.getModifiers()) || m.isSynthetic(), "1: private: " + m.getName());
                must(!names.contains(m.getName()), "1: the name of a public one: " + m.getName());
            }
        }
        due.sort(null);
        have.sort(null);
        must(due.equals(have), "the face: " + have);
        for (Field f : ChairAlley.class.getDeclaredFields()) {
            must(Modifier.isPrivate(f.getModifiers()) || f.getName().equals("NONE"), "1: private: " + f.getName());
        }
        must(ChairAlley.NONE == -1, "NONE");
        int m = ChairAlley.class.getModifiers();
        must(Modifier.isPublic(m) && Modifier.isFinal(m), "1: public and final");
        must(ChairAlley.class.getDeclaredConstructors().length == 1, "one constructor");
    }

    private static void classes() {
        Set<String> names = new TreeSet<>(Arrays.asList(Face.NAMES));
        Class<?>[] inside = ChairAlley.class.getDeclaredClasses();
        must(inside.length + 1 <= 12, "11: some twelve classes");
        for (Class<?> c : inside) {
            must(Modifier.isStatic(c.getModifiers()) && Modifier.isPrivate(c.getModifiers()), "1: static: " + c.getName());
            int fields = 0;
            for (Field f : c.getDeclaredFields()) {
                boolean isStatic = Modifier.isStatic(f.getModifiers());
                must(!isStatic || Modifier.isFinal(f.getModifiers()), "5: final: " + f.getName());
                fields += isStatic ? 0 : 1;
            }
            must(fields <= 20, "11: some twenty fields: " + c.getName());
            for (Method m : c.getDeclaredMethods()) {
                must(m.getParameterCount() <= 7, "11: seven parameters: " + m.getName());
                must(!names.contains(m.getName()), "1: the name of a public one: " + m.getName());
            }
        }
    }

    private static void text(String whole) {
        String code = whole.replaceAll("(?s)/\\*.*?\\*/", "").replaceAll("//[^\n]*", "").replaceAll("\"[^\"\n]*\"", "\"\"");
        String[] never = {"\\btry\\b", "\\bcatch\\b", "\\bfinally\\b", "\\bsynchronized\\b", "\\bassert\\b", "->", "::",
            "Exact\\(", "\\binstanceof\\b", "\"\" *\\+", "\\+ *\"\"", "\\bpackage\\b", "\\bthread\\b", "System\\.(?!arraycopy)",
            "\\bRandom\\b", "\\.length\\(\\) *- *1\\]", "static \\{", "\\bvar\\b", "for *\\( *;;", "while *\\(true"};
        for (String pattern : never) {
            Matcher m = Pattern.compile(pattern).matcher(code);
            must(!m.find(), "not in the language: " + pattern);
        }
        Matcher imports = Pattern.compile("import ([^;]*);").matcher(code);
        while (imports.find()) {
            must(imports.group(1).equals("java.util.NoSuchElementException"), "4: import " + imports.group(1));
        }
        Matcher thrown = Pattern.compile("throw [^;]*;").matcher(code);
        while (thrown.find()) {
            must(thrown.group().equals("throw new NoSuchElementException();"), "6: " + thrown.group());
        }
        String[] lines = code.split("\n", -1);
        int begin = -1;
        for (int i = 0; i < lines.length; i++) {
            if (lines[i].matches("( {4}| {8})[a-zA-Z].*\\(.*\\).*\\{") && !lines[i].contains(" class ")) {
                begin = i;
            } else if (lines[i].matches("( {4}| {8})\\}") && begin >= 0) {
                must(i - begin < 60, "11: sixty lines: " + lines[begin]);
                begin = -1;
            }
        }
    }
}
