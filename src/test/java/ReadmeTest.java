import java.lang.reflect.Method;
import java.lang.reflect.Modifier;
import java.nio.file.Files;
import java.nio.file.Path;
import java.util.regex.Matcher;
import java.util.regex.Pattern;

/** README.md's examples answer what it says, and it names every call and every line of the text. Run from the project's root. */
public final class ReadmeTest {
    private static final Pattern MADE = Pattern.compile("UphillOnly x = new UphillOnly\\(\\);");
    private static final Pattern TOLD = Pattern.compile("tell\\(x, \"([^\"]*)\"\\);");
    private static final Pattern CALLED = Pattern.compile("x\\.(\\w+)\\(([^)]*)\\); +// (-?\\d+): .+");
    private static final String[] LINES = {
        "town N", "corner K D N", "stuck K", "free K", "paved A B M", "level A B M", "stair A B M", "bridge A B M",
        "half H", "up", "even", "down", "errand A B", "idle"};
    private static int wrong = 0;
    private static int called = 0;

    public static void main(String[] args) throws Exception {
        String page = Files.readString(Path.of("README.md"));
        Matcher block = Pattern.compile("```java\n(.*?)```", Pattern.DOTALL).matcher(page);
        while (block.find()) {
            play(block.group(1).split("\n"));
        }
        check(called >= 15, "only " + called + " calls were found in README.md's examples");
        for (Method m : UphillOnly.class.getDeclaredMethods()) {
            boolean isPublic = Modifier.isPublic(m.getModifiers());
            check(!isPublic || page.contains("\n| `" + m.getName() + "("), "README.md does not tell of " + m.getName());
        }
        for (String line : LINES) {
            check(page.contains("`" + line + "`"), "README.md does not tell of the line " + line);
        }
        System.exit(wrong == 0 ? 0 : 1);
    }

    private static void check(boolean holds, String what) {
        if (!holds) {
            wrong++;
            System.out.println(what);
        }
    }

    private static void play(String[] rows) throws Exception {
        UphillOnly x = new UphillOnly();
        for (String row : rows) {
            Matcher told = TOLD.matcher(row);
            Matcher call = CALLED.matcher(row);
            if (MADE.matcher(row).matches()) {
                x = new UphillOnly();
            } else if (told.matches()) {
                Bench.tell(x, told.group(1));
            } else {
                check(call.matches() && answer(x, call) == Integer.parseInt(call.group(3)), "README.md is wrong: " + row);
                called++;
            }
        }
    }

    private static int answer(UphillOnly x, Matcher call) throws Exception {
        String[] told = call.group(2).isEmpty() ? new String[0] : call.group(2).split(", *");
        for (Method m : UphillOnly.class.getDeclaredMethods()) {
            if (Modifier.isPublic(m.getModifiers()) && m.getName().equals(call.group(1))) {
                Object[] numbers = new Object[told.length];
                for (int i = 0; i < told.length; i++) {
                    long number = Long.decode(told[i].replace("L", ""));
                    if (m.getParameterTypes()[i] == long.class) {
                        numbers[i] = number;
                    } else {
                        numbers[i] = (int) number;
                    }
                }
                return (int) m.invoke(x, numbers);
            }
        }
        throw new IllegalStateException("no such call: " + call.group(1));
    }
}
