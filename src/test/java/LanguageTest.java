import java.lang.reflect.Constructor;
import java.lang.reflect.Field;
import java.lang.reflect.Method;
import java.lang.reflect.Modifier;
import java.nio.file.Files;
import java.nio.file.Path;
import java.util.ArrayList;
import java.util.Arrays;
import java.util.List;
import java.util.Set;
import java.util.TreeSet;
import java.util.regex.Matcher;
import java.util.regex.Pattern;

/** The class's face is the document's, and its source keeps to what LANGUAGE.md leaves. Run from the project's root. */
public final class LanguageTest {
    private static final Path SOURCE = Path.of("src/main/java/UphillOnly.java");
    private static final String[] FACE = {
        "write(long, int)", "erase()", "fault()", "town()", "corner(int, int)", "street(int, int)", "as(int, int)",
        "go(int)", "rest(int)", "here(int)", "keep(int)", "back(int)", "reach(int, int)", "soonest(int, int, int)",
        "home(int, int)", "cut(int)", "served()", "law(int)", "rope(int)", "mended(int)", "walk(int)", "burn()",
        "judge(int, int)", "seen(int, int, int)", "forget()", "sure(int, int, int)", "count(int)"};
    private static int wrong = 0;

    private static void check(boolean holds, String what) {
        if (!holds) {
            wrong++;
            System.out.println(what);
        }
    }

    public static void main(String[] args) throws Exception {
        face();
        nested();
        source();
        System.exit(wrong == 0 ? 0 : 1);
    }

    private static void face() {
        Class<?> c = UphillOnly.class;
        check(Modifier.isPublic(c.getModifiers()) && Modifier.isFinal(c.getModifiers()), "the class is not public final");
        Set<String> methods = new TreeSet<>();
        Set<String> names = new TreeSet<>();
        for (Method m : c.getDeclaredMethods()) {
            if (!Modifier.isPrivate(m.getModifiers()) && !m.isSynthetic()) {
                List<String> types = new ArrayList<>();
                Arrays.stream(m.getParameterTypes()).forEach(t -> types.add(t.getName()));
                methods.add(m.getName() + "(" + String.join(", ", types) + ")");
                names.add(m.getName());
                check(m.getModifiers() == Modifier.PUBLIC && m.getReturnType() == int.class, m + " is not the face's");
            }
        }
        check(methods.equals(new TreeSet<>(Arrays.asList(FACE))), "the face's methods are " + methods);
        for (Method m : c.getDeclaredMethods()) {
            check(!Modifier.isPrivate(m.getModifiers()) || !names.contains(m.getName()), m + " bears a public name");
        }
        Set<String> constants = new TreeSet<>();
        for (Field f : c.getDeclaredFields()) {
            if (!Modifier.isPrivate(f.getModifiers())) {
                constants.add(f.getName());
            }
            check(!Modifier.isStatic(f.getModifiers()) || Modifier.isFinal(f.getModifiers()), f + " is static state");
        }
        check(constants.equals(Set.of("NONE", "UNKNOWN", "OUTSIDE", "NOT", "FULL")), "the constants are " + constants);
        Constructor<?>[] made = c.getDeclaredConstructors();
        check(made.length == 1 && made[0].getParameterCount() == 0 && made[0].getModifiers() == Modifier.PUBLIC,
            "the constructor is not the face's");
    }

    private static void nested() {
        Class<?>[] inside = UphillOnly.class.getDeclaredClasses();
        check(inside.length <= 11, "too many classes");
        for (Class<?> c : inside) {
            check(Modifier.isStatic(c.getModifiers()), c + " is not static");
            check(!Modifier.isPublic(c.getModifiers()) && !Modifier.isProtected(c.getModifiers()), c + " is seen");
            long fields = Arrays.stream(c.getDeclaredFields()).filter(f -> !Modifier.isStatic(f.getModifiers())).count();
            check(fields <= 20, c + " has " + fields + " fields");
            for (Method m : c.getDeclaredMethods()) {
                check(m.getParameterCount() <= 7, m + " takes too much");
            }
        }
    }

    private static void source() throws Exception {
        String text = Files.readString(SOURCE);
        check(text.chars().allMatch(ch -> ch == '\n' || ch >= 32 && ch < 127), "a sign beyond 127");
        String code = text.replaceAll("/\\*(?s:.*?)\\*/|//[^\n]*", "").replaceAll("\"[^\"\n]*\"", "\"\"");
        String banned = "throw|throws|try|catch|finally|synchronized|assert|import|package|protected|double|float"
            + "|Object|Thread|Random|Exception|Error|lambda|native|volatile|transient|strictfp|goto|var|yield";
        Matcher word = Pattern.compile("\\b(" + banned + ")\\b|->|::|@").matcher(code);
        while (word.find()) {
            check(false, "the source has " + word.group());
        }
        Matcher library = Pattern.compile("\\b(Math|Integer|Long|System|Arrays)\\.(\\w+)").matcher(code);
        while (library.find()) {
            check(Set.of("Math.max", "Math.min", "Integer.bitCount").contains(library.group()),
                "the source calls " + library.group());
        }
        methodsAreShort(code);
    }

    private static void methodsAreShort(String code) {
        String[] lines = code.split("\n");
        int begin = -1;
        String indent = "";
        for (int i = 0; i < lines.length; i++) {
            Matcher head = Pattern.compile("^( {4}| {8})(?!return|if|for|while|switch|else)[\\w\\[\\] ]+\\(.*\\) \\{$").matcher(lines[i]);
            if (head.find()) {
                begin = i;
                indent = head.group(1);
            } else if (begin >= 0 && lines[i].equals(indent + "}")) {
                check(i - begin <= 60, "too long: " + lines[begin].trim());
                begin = -1;
            }
        }
    }
}
