import java.lang.reflect.Constructor;
import java.lang.reflect.Field;
import java.lang.reflect.Method;
import java.lang.reflect.Modifier;
import java.nio.file.Files;
import java.nio.file.Path;
import java.util.Arrays;
import java.util.HashSet;
import java.util.Set;
import java.util.TreeSet;

/** The public face, just as the document writes it, and those rules of LANGUAGE.md that can be read off the class and its text. */
public final class FaceTest {
    private static final String[] FACE = {
        "int bond(int,int,int,int,int)", "int drop(int)", "boolean alter(int,int,int)", "int of(int,int) throws",
        "int flow(int,int)", "int price(int,int)", "int rateOf(int,int)", "boolean contract(int,int,int)", "int count(int)",
        "int cheapest(int)", "int ranked(int,int)", "long mark(int)", "long gap(int,int) throws", "int switches(int,int,int)",
        "int implied(long)", "int meet(int,int,int,int)", "long cost(int,int,int) throws", "boolean tree(int,int,int,int,int)",
        "int rate(int,int)", "long value(int,int) throws", "int act(int,int)", "int path(int,boolean)", "int often(int)",
        "long fixed(int) throws", "long only(int) throws", "long without(int) throws", "int fair()"};
    private static int wrong = 0;

    private static void check(boolean good, String fault) {
        if (!good) {
            wrong++;
            System.out.println(fault);
        }
    }

    private static String written(Method m) {
        StringBuilder text = new StringBuilder(m.getReturnType().getSimpleName()).append(' ').append(m.getName()).append('(');
        for (int i = 0; i < m.getParameterCount(); i++) text.append(i > 0 ? "," : "").append(m.getParameterTypes()[i].getSimpleName());
        text.append(')');
        for (Class<?> e : m.getExceptionTypes()) text.append(e == java.util.NoSuchElementException.class ? " throws" : " throws " + e);
        return text.toString();
    }

    private static void face() {
        Class<?> c = DeliveryBasket.class;
        check(Modifier.isPublic(c.getModifiers()) && Modifier.isFinal(c.getModifiers()), "the class is not public and final");
        Set<String> seen = new TreeSet<>();
        for (Method m : c.getDeclaredMethods()) {
            if (Modifier.isPrivate(m.getModifiers())) continue;
            check(Modifier.isPublic(m.getModifiers()) && !Modifier.isStatic(m.getModifiers()), "not public, or static: " + m);
            seen.add(written(m));
        }
        check(seen.equals(new TreeSet<>(Arrays.asList(FACE))), "the methods are " + seen);
        Constructor<?>[] made = c.getDeclaredConstructors();
        check(made.length == 1 && made[0].getParameterCount() == 0 && Modifier.isPublic(made[0].getModifiers()), "the constructor");
        for (Field f : c.getDeclaredFields()) {
            boolean none = f.getName().equals("NONE");
            check(none ? Modifier.isPublic(f.getModifiers()) && f.getType() == int.class : Modifier.isPrivate(f.getModifiers()), "the field " + f);
        }
        check(DeliveryBasket.NONE == -1, "NONE");
    }

    private static void inside(Class<?> c, Set<String> publicNames) {
        for (Method m : c.getDeclaredMethods()) {
            boolean ofFace = c == DeliveryBasket.class && Modifier.isPublic(m.getModifiers());
            check(ofFace || !publicNames.contains(m.getName()), "bears a public name: " + m);
            check(m.getParameterCount() <= 7, "too many parameters: " + m);
        }
        int own = 0;
        for (Field f : c.getDeclaredFields()) {
            check(!Modifier.isStatic(f.getModifiers()) || Modifier.isFinal(f.getModifiers()), "static, not final: " + f);
            if (!Modifier.isStatic(f.getModifiers())) own++;
        }
        check(own <= 20, "too many fields: " + c);
        for (Class<?> d : c.getDeclaredClasses()) {
            check(Modifier.isStatic(d.getModifiers()) && !Modifier.isPublic(d.getModifiers()) && !Modifier.isProtected(d.getModifiers()), "not static or not private: " + d);
            inside(d, publicNames);
        }
    }

    private static void text() throws Exception {
        String source = Files.readString(Path.of("src/main/java/DeliveryBasket.java"));
        String code = source.replaceAll("(?s)/\\*.*?\\*/", "").replaceAll("//[^\n]*", "").replaceAll("\"[^\"\n]*\"", "\"\"");
        for (String word : new String[] {"->", "::", "catch", "try", "finally", "synchronized", "assert", "Exact", "double", "float",
                "package", "Throwable", "Error", "toString", "hashCode", "System.out", "Random", "Thread", "@"}) {
            boolean there = word.matches("\\w+") ? code.matches("(?s).*\\b" + word + "\\b.*") : code.contains(word);
            check(!there, "the text has " + word);
        }
        for (String line : source.split("\n")) {
            if (line.startsWith("import ")) check(line.matches("import java\\.util\\.(Arrays|NoSuchElementException);"), line);
            for (int i = 0; i < line.length(); i++) check(line.charAt(i) < 128, "a sign beyond 127: " + line);
        }
    }

    /** Rule 11: how long a method is, how many classes there are, how deep one stands in another. */
    private static void sizes() throws Exception {
        String[] lines = Files.readString(Path.of("src/main/java/DeliveryBasket.java")).split("\n");
        int classes = 0;
        int methods = 0;
        for (int i = 0; i < lines.length; i++) {
            String line = lines[i];
            if (line.matches("\\s*(\\w+ )*(class|record|enum|interface) \\w+.*\\{")) classes++;
            if (!line.matches(" {4}( {4})?[A-Za-z].*\\)( throws \\w+)? \\{") || line.matches("\\s*(if|for|while|switch|do|else)\\b.*")) continue;
            String end = line.replaceAll("\\S.*", "") + "}";
            int last = i;
            while (last < lines.length - 1 && !lines[last].equals(end)) last++;
            check(last - i < 60, "longer than sixty lines: " + line.trim());
            methods++;
        }
        check(classes >= 1 && classes <= 12, "classes: " + classes);
        check(methods > FACE.length, "methods seen: " + methods);
        check(DeliveryBasket.class.getDeclaredClasses().length + 1 == classes, "a class inside a class inside");
    }

    public static void main(String[] args) throws Exception {
        face();
        Set<String> names = new HashSet<>();
        for (String f : FACE) names.add(f.substring(f.indexOf(' ') + 1, f.indexOf('(')));
        inside(DeliveryBasket.class, names);
        text();
        sizes();
        System.out.println(wrong == 0 ? "the face is as due" : wrong + " faults");
        if (wrong != 0) System.exit(1);
    }
}
