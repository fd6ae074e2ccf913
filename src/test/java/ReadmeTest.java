import java.io.File;
import java.lang.reflect.InvocationTargetException;
import java.lang.reflect.Method;
import java.lang.reflect.Modifier;
import java.nio.file.Files;
import java.nio.file.Path;
import java.util.NoSuchElementException;
import java.util.regex.Matcher;
import java.util.regex.Pattern;

/** README.md holds: its example answers what it says, its tables have every call of the face, its list every test. */
public final class ReadmeTest {
    private static final Pattern CALL = Pattern.compile("x\\.(\\w+)\\((.*?)\\);\\s*// ([^:]+): .*");
    private static int wrong = 0;

    private static void check(boolean good, String fault) {
        if (!good) {
            wrong++;
            System.out.println(fault);
        }
    }

    private static Method named(String name) {
        for (Method m : DeliveryBasket.class.getDeclaredMethods()) {
            if (m.getName().equals(name) && Modifier.isPublic(m.getModifiers())) return m;
        }
        return null;
    }

    private static Object read(String text, Class<?> type) {
        if (type == boolean.class) return Boolean.valueOf(text);
        if (type == long.class) return Long.valueOf(text.replace("L", ""));
        return Integer.valueOf(text);
    }

    private static String answer(DeliveryBasket x, Method m, String written) throws IllegalAccessException {
        String[] texts = written.isEmpty() ? new String[0] : written.split(", ");
        Object[] arguments = new Object[texts.length];
        for (int i = 0; i < texts.length; i++) arguments[i] = read(texts[i], m.getParameterTypes()[i]);
        try {
            return "" + m.invoke(x, arguments);
        } catch (InvocationTargetException e) {
            return e.getCause().getClass() == NoSuchElementException.class ? "throws" : "" + e.getCause();
        }
    }

    private static void example(String page) throws IllegalAccessException {
        String behind = page.substring(page.indexOf("```java") + 7);
        String block = behind.substring(0, behind.indexOf("```")).trim();
        String[] lines = block.split("\n");
        check(lines[0].equals("DeliveryBasket x = new DeliveryBasket();"), "the example begins with " + lines[0]);
        DeliveryBasket x = new DeliveryBasket();
        for (int i = 1; i < lines.length; i++) {
            Matcher line = CALL.matcher(lines[i]);
            Method m = line.matches() ? named(line.group(1)) : null;
            check(m != null, "not a call with its answer: " + lines[i]);
            if (m != null) {
                String got = answer(x, m, line.group(2));
                check(got.equals(line.group(3)), lines[i] + " answered " + got);
            }
        }
        for (Method m : DeliveryBasket.class.getDeclaredMethods()) {
            if (!Modifier.isPublic(m.getModifiers())) continue;
            check(block.contains("x." + m.getName() + "("), "the example has no " + m.getName());
        }
    }

    /** A row of a table has the call with as many names as it has parameters; it says "throws" where the call may throw. */
    private static void tables(String page) {
        for (Method m : DeliveryBasket.class.getDeclaredMethods()) {
            if (!Modifier.isPublic(m.getModifiers())) continue;
            Matcher row = Pattern.compile("(?m)^\\| `" + m.getName() + "\\((.*?)\\)` \\|.*\\|(.*)\\|$").matcher(page);
            boolean there = row.find();
            check(there, "no row of " + m.getName());
            if (!there) continue;
            int names = row.group(1).isEmpty() ? 0 : row.group(1).split(", ").length;
            check(names == m.getParameterCount(), "the row of " + m.getName() + " has " + names + " names");
            check(row.group(2).contains("throws") == m.getExceptionTypes().length > 0, "what the row of " + m.getName() + " says of throwing");
            check(row.group(2).contains("`false`") == (m.getReturnType() == boolean.class), "what the row of " + m.getName() + " says of false");
        }
    }

    private static void tests(String page) {
        File[] files = new File("src/test/java").listFiles();
        check(files != null && files.length > 0, "no tests are found");
        for (File f : files == null ? new File[0] : files) {
            String name = f.getName().replace(".java", "");
            check(page.contains("- `" + name + "`:"), "the list of tests has no " + name);
        }
    }

    public static void main(String[] args) throws Exception {
        String page = Files.readString(Path.of("README.md"));
        example(page);
        tables(page);
        tests(page);
        System.out.println(wrong == 0 ? "the page is as due" : wrong + " faults");
        if (wrong != 0) System.exit(1);
    }
}
