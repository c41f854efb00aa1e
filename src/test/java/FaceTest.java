import java.lang.reflect.Constructor;
import java.lang.reflect.Field;
import java.lang.reflect.Method;
import java.lang.reflect.Modifier;
import java.nio.file.Files;
import java.nio.file.Path;
import java.util.Set;
import java.util.TreeSet;
import java.util.regex.Matcher;
import java.util.regex.Pattern;

/** The public face is the document's, and nothing else can be reached from outside. */
public final class FaceTest {
    private static final Check C = new Check("FaceTest");

    public static void main(String[] args) throws Exception {
        constants();
        methods();
        constructors();
        classes();
        C.end();
    }

    private static void constants() {
        C.due("INVALID_ARGUMENT", HarborLight.INVALID_ARGUMENT, -1);
        C.due("NOT_POSSIBLE", HarborLight.NOT_POSSIBLE, -2);
        C.due("LIMIT_REACHED", HarborLight.LIMIT_REACHED, -3);
        C.due("NOT_FOUND", HarborLight.NOT_FOUND, -4);
        Set<String> open = new TreeSet<>();
        for (Field f : HarborLight.class.getDeclaredFields()) {
            if (!Modifier.isPrivate(f.getModifiers())) {
                open.add(f.getName());
                C.isTrue(f.getName() + " is a constant", Modifier.toString(f.getModifiers())
                    .equals("public static final") && f.getType() == int.class);
            }
        }
        C.isTrue("the constants " + open, open.equals(new TreeSet<>(Set.of("INVALID_ARGUMENT",
            "NOT_POSSIBLE", "LIMIT_REACHED", "NOT_FOUND"))));
    }

    private static void methods() throws Exception {
        String doc = Files.readString(Path.of("../shared/DOC.md"));
        String face = doc.substring(doc.indexOf("```java"), doc.indexOf("## Description"));
        Set<String> due = new TreeSet<>();
        Matcher m = Pattern.compile("public (int|long) (\\w+)\\((.*)\\);").matcher(face);
        while (m.find()) {
            due.add(m.group(1) + " " + m.group(2) + " " + m.group(3).replaceAll(" \\w+(,|$)", "$1"));
        }
        C.due("methods in the document", due.size(), 31);
        Set<String> open = new TreeSet<>();
        Set<String> names = new TreeSet<>();
        for (Method method : HarborLight.class.getDeclaredMethods()) {
            if (Modifier.isPrivate(method.getModifiers()) || method.isSynthetic()) {
                continue;
            }
            StringBuilder types = new StringBuilder();
            for (Class<?> type : method.getParameterTypes()) {
                types.append(types.length() == 0 ? "" : ", ").append(type);
            }
            open.add(method.getReturnType() + " " + method.getName() + " " + types);
            names.add(method.getName());
            C.isTrue(method + " is public alone", Modifier.toString(method.getModifiers()).equals("public"));
            C.due(method + " names no exceptions", method.getExceptionTypes().length, 0);
        }
        C.isTrue("the methods " + open, open.equals(due));
        privateNames(names);
    }

    private static void privateNames(Set<String> names) {
        for (Method method : HarborLight.class.getDeclaredMethods()) {
            if (Modifier.isPrivate(method.getModifiers())) {
                C.isTrue(method + " has its own name", !names.contains(method.getName()));
            }
        }
        for (Class<?> inner : HarborLight.class.getDeclaredClasses()) {
            for (Method method : inner.getDeclaredMethods()) {
                C.isTrue(method + " has its own name", !names.contains(method.getName()));
            }
        }
    }

    private static void constructors() {
        Constructor<?>[] all = HarborLight.class.getDeclaredConstructors();
        C.due("constructors", all.length, 1);
        C.isTrue("the constructor is public", Modifier.isPublic(all[0].getModifiers()));
        C.due("its parameters", all[0].getParameterCount(), 0);
    }

    private static void classes() {
        C.isTrue("the class", Modifier.toString(HarborLight.class.getModifiers()).equals("public final"));
        C.isTrue("above it", HarborLight.class.getSuperclass() == Object.class);
        Class<?>[] inside = HarborLight.class.getDeclaredClasses();
        C.isTrue("few classes", inside.length + 1 <= 12);
        for (Class<?> inner : inside) {
            C.isTrue(inner + " is private and static", Modifier.isPrivate(inner.getModifiers())
                && Modifier.isStatic(inner.getModifiers()));
            int fields = 0;
            for (Field f : inner.getDeclaredFields()) {
                boolean isStatic = Modifier.isStatic(f.getModifiers());
                fields += isStatic ? 0 : 1;
                boolean isFit = f.getType() == int.class || f.getType() == int[].class;
                C.isTrue(f + " is a constant", !isStatic || (Modifier.isFinal(f.getModifiers()) && isFit));
            }
            C.isTrue(inner + " has few fields", fields <= 20);
        }
    }
}
