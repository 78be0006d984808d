import java.io.IOException;
import java.lang.reflect.Constructor;
import java.lang.reflect.Field;
import java.lang.reflect.Method;
import java.lang.reflect.Modifier;
import java.nio.file.Files;
import java.nio.file.Path;
import java.util.Arrays;
import java.util.List;
import java.util.Set;
import java.util.TreeSet;

/** The public face is the document's, and the source keeps those rules of LANGUAGE.md that a look can tell. */
public final class FaceTest {
    private static final String ARGUMENT = " throws IllegalArgumentException";
    private static final String STATE = " throws IllegalStateException";
    private static final String BOTH = ARGUMENT + ", IllegalStateException";
    private static final Set<String> FACE = new TreeSet<>(List.of(
            "int place(int)" + BOTH,
            "boolean closed(int, int, boolean)" + ARGUMENT,
            "int cage(int)" + BOTH,
            "int size(int, int, int, int)" + ARGUMENT,
            "int boat(int)" + BOTH,
            "boolean weather(int, int, boolean)" + ARGUMENT,
            "int plant(int, int)" + ARGUMENT,
            "int order(int, int, int, int, int)" + BOTH,
            "void prices(int, int)" + ARGUMENT,
            "int run(int)" + ARGUMENT,
            "int nodes()",
            "long hope()",
            "int move(int, int)" + ARGUMENT,
            "int taken(int)" + ARGUMENT,
            "int check()" + STATE,
            "long worth()" + STATE,
            "int sold(int)" + BOTH));
    private static final String[] RULED_OUT = {"->", "::", "Exact(", "synchronized", "assert ", "finally", "catch",
        "static {", "record ", "package ", "System.out", "System.nano", "System.current", "Random", "Object", "\" +",
        "+ \""};

    private static final Due DUE = new Due("FaceTest");

    public static void main(String[] args) throws IOException {
        face();
        classesInside();
        source(Files.readAllLines(Path.of("src/main/java/HarvestPlans.java")));
        DUE.end();
    }

    private static void yes(String what, boolean is) {
        DUE.is(what, true, is);
    }

    private static void face() {
        Class<?> type = HarvestPlans.class;
        yes("public and final", Modifier.isPublic(type.getModifiers()) && Modifier.isFinal(type.getModifiers()));
        Set<String> found = new TreeSet<>();
        Set<String> names = new TreeSet<>();
        for (Method m : type.getDeclaredMethods()) {
            if (!Modifier.isPrivate(m.getModifiers())) {
                yes(m + " is public and no more", m.getModifiers() == Modifier.PUBLIC);
                found.add(signature(m));
                names.add(m.getName());
            }
        }
        yes("the methods " + found + " are " + FACE, found.equals(FACE));
        for (Class<?> inside : with(type)) {
            for (Method m : inside.getDeclaredMethods()) {
                boolean isPrivate = Modifier.isPrivate(m.getModifiers());
                yes(m + " bears a name of the face", !isPrivate || !names.contains(m.getName()));
                yes(m + " has at most seven parameters", m.getParameterCount() <= 7);
            }
        }
        Constructor<?>[] constructors = type.getDeclaredConstructors();
        DUE.is("constructors", 1, constructors.length);
        yes("HarvestPlans(int)", constructors[0].toString().equals("public HarvestPlans(int)"));
    }

    private static String signature(Method m) {
        String types = String.join(", ", Arrays.stream(m.getParameterTypes()).map(Class::getSimpleName).toList());
        String thrown = String.join(", ", Arrays.stream(m.getExceptionTypes()).map(Class::getSimpleName).toList());
        String text = m.getReturnType().getSimpleName() + " " + m.getName() + "(" + types + ")";
        return thrown.isEmpty() ? text : text + " throws " + thrown;
    }

    private static Class<?>[] with(Class<?> type) {
        Class<?>[] inside = type.getDeclaredClasses();
        Class<?>[] all = Arrays.copyOf(inside, inside.length + 1);
        all[inside.length] = type;
        return all;
    }

    private static void classesInside() {
        Class<?>[] all = with(HarvestPlans.class);
        yes("at most twelve classes", all.length <= 12);
        for (Class<?> type : all) {
            yes(type + " is static", type == HarvestPlans.class || Modifier.isStatic(type.getModifiers()));
            int held = 0;
            for (Field f : type.getDeclaredFields()) {
                int mods = f.getModifiers();
                yes(f + " is hidden", Modifier.isPrivate(mods) || f.getName().equals("NONE"));
                yes(f + " is no static state", !Modifier.isStatic(mods) || Modifier.isFinal(mods));
                held += Modifier.isStatic(mods) ? 0 : 1;
            }
            yes(type + " has at most twenty fields", held <= 20);
        }
    }

    private static void source(List<String> lines) {
        yes("the source has lines", lines.size() > 100);
        for (int i = 0; i < lines.size(); i++) {
            String line = lines.get(i);
            String code = line.strip().startsWith("/") || line.strip().startsWith("*") ? "" : line;
            for (String word : RULED_OUT) {
                yes("line " + (i + 1) + " is free of " + word, !code.contains(word));
            }
            yes("line " + (i + 1) + " imports Arrays alone",
                    !code.startsWith("import") || code.equals("import java.util.Arrays;"));
        }
    }
}
