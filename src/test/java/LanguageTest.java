import java.lang.reflect.Field;
import java.lang.reflect.Method;
import java.lang.reflect.Modifier;
import java.nio.file.Files;
import java.nio.file.Path;
import java.util.ArrayList;
import java.util.List;
import java.util.Set;
import java.util.TreeSet;
import java.util.regex.Matcher;
import java.util.regex.Pattern;

/** What of LANGUAGE.md and of the document's face can be seen from outside; run from the project's folder. */
public final class LanguageTest {
    private static final String SOURCE = "src/main/java/CranePads.java";
    private static final String[] FACE = {
        "int pad(int,int,int,int)", "int part(int,int,int,boolean)", "int mass(int,int)", "int put(int,int)",
        "int told(int)", "long padOf(int,int)", "int entry(int,int,int)", "int read(int,int)", "int allowed(int,int)",
        "int weight()", "long centre(int,int)", "long moment(int,int)", "long factor(int,int)", "long push(int,int)",
        "int lifted()", "int mat(int)", "int why()", "int most()", "int where(int)", "int farthest(int)",
        "int way(int,int)", "int ballast(int)", "int feed(int)", "int clear()", "int plan()", "int checked(int)",
        "long spare()", "int done()", "int backward()", "int seen(int,int,int)", "int lay(int,int)", "int book()",
        "int booked(int,int)", "int heaviest()", "int list(int,int)", "int set(int,int,long)", "long get(int,int)",
        "int count(int)", "int image()", "int undo()"};
    private static int wrong = 0;

    private static void must(boolean so, String what) {
        if (!so) {
            wrong++;
            System.out.println(what);
        }
    }

    private static String signature(Method method) {
        List<String> types = new ArrayList<>();
        for (Class<?> type : method.getParameterTypes()) {
            types.add(type.getSimpleName());
        }
        return method.getReturnType().getSimpleName() + " " + method.getName() + "(" + String.join(",", types) + ")";
    }

    private static Set<String> publicNames() {
        Set<String> names = new TreeSet<>();
        Set<String> signatures = new TreeSet<>();
        for (Method method : CranePads.class.getDeclaredMethods()) {
            if (!Modifier.isPrivate(method.getModifiers())) {
                must(Modifier.isPublic(method.getModifiers()) && !Modifier.isStatic(method.getModifiers()),
                    "not private: " + method);
                signatures.add(signature(method));
                names.add(method.getName());
            }
        }
        must(signatures.equals(new TreeSet<>(List.of(FACE))), "the face is " + signatures);
        return names;
    }

    private static void face() {
        must(Modifier.isFinal(CranePads.class.getModifiers()), "the class is not final");
        must(CranePads.class.getDeclaredConstructors().length == 1, "constructors");
        Set<String> constants = Set.of("NONE", "BAD", "STATE", "FULL", "NO");
        for (Field field : CranePads.class.getDeclaredFields()) {
            boolean open = !Modifier.isPrivate(field.getModifiers());
            must(open == constants.contains(field.getName()), "open or not: " + field);
        }
        Set<String> names = publicNames();
        Class<?>[] inside = CranePads.class.getDeclaredClasses();
        must(inside.length + 1 <= 12, "classes: " + (inside.length + 1));
        look(CranePads.class, names, true);
        for (Class<?> one : inside) {
            must(Modifier.isStatic(one.getModifiers()) && Modifier.isPrivate(one.getModifiers()), "not inside: " + one);
            look(one, names, false);
        }
    }

    private static void look(Class<?> one, Set<String> names, boolean outer) {
        int fields = 0;
        for (Field field : one.getDeclaredFields()) {
            boolean constant = Modifier.isStatic(field.getModifiers());
            must(!constant || Modifier.isFinal(field.getModifiers()), "static and not final: " + field);
            fields += constant ? 0 : 1;
        }
        must(fields <= 20, "fields of " + one + ": " + fields);
        for (Method method : one.getDeclaredMethods()) {
            must(method.getParameterCount() <= 7, "parameters of " + method);
            boolean ofFace = outer && Modifier.isPublic(method.getModifiers());
            must(ofFace || !names.contains(method.getName()), "bears the name of a public one: " + method);
        }
    }

    private static void words() throws Exception {
        String text = Files.readString(Path.of(SOURCE));
        for (int i = 0; i < text.length(); i++) {
            must(text.charAt(i) < 128, "a sign above 127 at " + i);
        }
        String code = text.replaceAll("(?s)/\\*.*?\\*/", "").replaceAll("//[^\n]*", "");
        String[] refused = {"\\bthrow\\b", "\\bthrows\\b", "\\btry\\b", "\\bcatch\\b", "\\bsynchronized\\b", "\\bassert\\b",
            "->", "::", "Exact\\(", "static \\{", "System\\.(?!arraycopy\\b)", "\\bMath\\.random", "\\bThread\\b", "\\bdouble\\b",
            "\\bfloat\\b", "\\bvar\\b", "\\bfinalize\\b", "^package\\b", "\\bString\\.format"};
        for (String word : refused) {
            Matcher found = Pattern.compile(word, Pattern.MULTILINE).matcher(code);
            must(!found.find(), "LANGUAGE.md refuses " + word);
        }
        Matcher imported = Pattern.compile("^import (.*);", Pattern.MULTILINE).matcher(code);
        while (imported.find()) {
            must(imported.group(1).equals("java.util.Arrays"), "import of " + imported.group(1));
        }
        lengths(text.split("\n"));
    }

    /** A method begins at a line with its head and ends at the brace that stands as far in. */
    private static void lengths(String[] lines) {
        for (int i = 0; i < lines.length; i++) {
            Matcher head = Pattern.compile("^( {4}| {8})(?!private static final class)\\S.*\\) \\{$").matcher(lines[i]);
            if (head.find() && !lines[i].trim().matches("(if|for|while|switch|\\}).*")) {
                int end = i;
                while (end < lines.length && !lines[end].equals(head.group(1) + "}")) {
                    end++;
                }
                must(end - i <= 60, "a long method: " + lines[i].trim());
            }
        }
    }

    public static void main(String[] args) throws Exception {
        face();
        words();
        System.out.println(wrong == 0 ? "the face and the language are kept" : wrong + " faults");
        if (wrong != 0) {
            System.exit(1);
        }
    }
}
