import java.io.IOException;
import java.lang.reflect.Constructor;
import java.lang.reflect.Field;
import java.lang.reflect.Method;
import java.lang.reflect.Modifier;
import java.nio.file.Files;
import java.nio.file.Path;
import java.util.Arrays;
import java.util.List;
import java.util.Set;
import java.util.TreeSet;
import java.util.regex.Matcher;
import java.util.regex.Pattern;
import java.util.stream.Collectors;

/** What can be read off the class and its source of the document's face and of the rules of LANGUAGE.md. */
public final class LanguageTest {
    private static final Due due = new Due("LanguageTest");
    private static final Path SOURCE = Path.of("src/main/java/FormMill.java");

    /** The public face as the document tells it. */
    private static final String[] FACE = {
        "int feed(int, long)", "int form()", "int about(int, int)", "int part(int, int, int)", "int entry(int, long, int)",
        "int desk(int, int)", "int clear()", "int write(int, long)", "int line(int, int)", "int cell(int, int, int)",
        "int seat(int, int)", "int sort()", "int draft(int)", "int give(int, int)", "int takeBack(int)", "int kindOf(int, int)",
        "long item(int, int, int)", "int cellOf(int, int, int, int)", "int digest(int)", "int check(int)", "int finding(int, int)",
        "int shown(int, int)", "int figure(int, int)", "long value()", "int told(int)", "int submit(int, int)", "int receipt(int)",
        "int earlier(int, int)", "int sign(int, int)", "long stats(int, int, int)", "int move(int, int, int, int)",
        "int migrate(int, int)", "int cameOver(int)", "int shortest(int, int)", "int proof(int)", "int keep()", "int export(int)",
        "int disk(int)", "int alter(int, int)", "int cutDisk(int)", "int take(int)", "int count(int)"
    };

    public static void main(String[] args) throws IOException {
        face();
        members();
        String source = Files.readString(SOURCE);
        words(withoutTexts(source));
        lengths(Files.readAllLines(SOURCE));
        due.end();
    }

    private static void face() {
        due.promise(1, "the public face");
        due.is("public and final", FormMill.class.getModifiers() & (Modifier.PUBLIC | Modifier.FINAL), Modifier.PUBLIC | Modifier.FINAL);
        Set<String> methods = new TreeSet<>();
        for (Method m : FormMill.class.getDeclaredMethods()) {
            if (!Modifier.isPrivate(m.getModifiers())) {
                methods.add(m.getReturnType() + " " + m.getName() + Arrays.stream(m.getParameterTypes()).map(Class::toString)
                    .collect(Collectors.joining(", ", "(", ")")));
                due.is(m + " is static", Modifier.isStatic(m.getModifiers()) ? 1 : 0, 0);
            }
        }
        due.is("methods other than those of the document " + methods, methods.equals(new TreeSet<>(List.of(FACE))) ? 1 : 0, 1);
        Set<String> fields = new TreeSet<>();
        for (Field f : FormMill.class.getDeclaredFields()) {
            if (!Modifier.isPrivate(f.getModifiers())) {
                fields.add(f.getType() + " " + f.getName());
                due.is(f + " is a constant", f.getModifiers(), Modifier.PUBLIC | Modifier.STATIC | Modifier.FINAL);
            }
        }
        due.is("constants " + fields, fields.equals(Set.of("int BAD", "int STATE", "int FULL", "int LATE", "int NONE")) ? 1 : 0, 1);
        for (Constructor<?> c : FormMill.class.getDeclaredConstructors()) {
            due.is(c + " takes nothing", c.getParameterCount(), 0);
            due.is(c + " is public", c.getModifiers(), Modifier.PUBLIC);
        }
    }

    private static void members() {
        Set<String> open = Arrays.stream(FACE).map(f -> f.replaceAll(".* (\\w+)\\(.*", "$1")).collect(Collectors.toSet());
        Class<?>[] inside = FormMill.class.getDeclaredClasses();
        due.is("classes (rule 11)", inside.length + 1 <= 12 ? 1 : 0, 1);
        for (Class<?> c : inside) {
            due.is(c + " is static (rule 2)", Modifier.isStatic(c.getModifiers()) ? 1 : 0, 1);
            due.is(c + " is neither public nor protected (rule 1)", c.getModifiers() & (Modifier.PUBLIC | Modifier.PROTECTED), 0);
            methods(c, open);
        }
        methods(FormMill.class, open);
    }

    private static void methods(Class<?> c, Set<String> open) {
        int fields = 0;
        for (Field f : c.getDeclaredFields()) {
            fields += Modifier.isStatic(f.getModifiers()) ? 0 : 1;
            if (Modifier.isStatic(f.getModifiers())) {
                due.is(f + " is final (rule 5)", Modifier.isFinal(f.getModifiers()) ? 1 : 0, 1);
            }
        }
        due.is("fields of " + c + " (rule 11)", fields <= 20 ? 1 : 0, 1);
        for (Method m : c.getDeclaredMethods()) {
            due.is(m + " takes at most seven (rule 11)", m.getParameterCount() <= 7 ? 1 : 0, 1);
            if (Modifier.isPrivate(m.getModifiers())) {
                due.is(m + " has a name of the face (rule 1)", open.contains(m.getName()) ? 1 : 0, 0);
            }
        }
    }

    /** The source without comments and what stands in quotes. */
    private static String withoutTexts(String source) {
        return source.replaceAll("\"[^\"\\n]*\"", "\"\"").replaceAll("'(\\\\.|[^'])'", "' '")
            .replaceAll("(?s)/\\*.*?\\*/", "").replaceAll("//[^\\n]*", "");
    }

    private static void words(String code) {
        String[] never = {"throw", "throws", "try", "catch", "finally", "synchronized", "assert", "package", "protected", "hashCode",
            "toString", "double", "float", "Object", "System.out", "\\w+Exact", "volatile", "native"};
        for (String word : never) {
            due.is("'" + word + "' in the code (rules 3, 4, 6)", Pattern.compile("\\b" + word + "\\b").matcher(code).find() ? 1 : 0, 0);
        }
        due.is("-> in the code (rule 2)", code.contains("->") ? 1 : 0, 0);
        due.is(":: in the code (rule 2)", code.contains("::") ? 1 : 0, 0);
        due.is("texts joined by + (rule 10)", Pattern.compile("\"\"\\s*\\+|\\+\\s*\"\"").matcher(code).find() ? 1 : 0, 0);
        due.is("a static block (rule 5)", Pattern.compile("static\\s*\\{").matcher(code).find() ? 1 : 0, 0);
        Matcher imports = Pattern.compile("import ([\\w.*]+);").matcher(code);
        while (imports.find()) {
            due.is(imports.group(1) + " (rule 4)", List.of("java.util.Arrays", "java.util.ArrayList", "java.util.List").contains(imports.group(1)) ? 1 : 0, 1);
        }
    }

    /** Methods begin at a brace on the line of their name, and end at one that stands as far in. */
    private static void lengths(List<String> lines) {
        Pattern head = Pattern.compile("^( +)(private|public)[^=;]*\\([^;]*\\) \\{$");
        for (int i = 0; i < lines.size(); i++) {
            Matcher m = head.matcher(lines.get(i));
            if (m.matches()) {
                int end = i;
                while (end < lines.size() - 1 && !lines.get(end).equals(m.group(1) + "}")) {
                    end++;
                }
                due.is(lines.get(i).trim() + " is short (rule 11)", end - i + 1 <= 60 ? 1 : 0, 1);
            }
            due.is("line " + (i + 1) + " holds characters up to 255 (rule 3)", lines.get(i).chars().allMatch(c -> c < 256) ? 1 : 0, 1);
        }
    }
}
