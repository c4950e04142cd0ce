import java.lang.reflect.Field;
import java.lang.reflect.Method;
import java.lang.reflect.Modifier;
import java.nio.file.Files;
import java.nio.file.Path;
import java.util.ArrayList;
import java.util.Arrays;
import java.util.List;
import java.util.TreeSet;
import java.util.stream.Collectors;

/** The public face is that of the document, and nothing else is to be seen (rule 1 of LANGUAGE.md). */
public final class FaceTest {
    public static void main(String[] args) throws Exception {
        TreeSet<String> want = new TreeSet<>();
        boolean inside = false;
        for (String line : Files.readAllLines(Path.of("../shared/DOC.md"))) {
            inside = line.startsWith("```") ? line.equals("```java") : inside;
            String face = line.strip();
            if (inside && face.startsWith("public ") && face.endsWith(";")) {
                want.add(face.replaceAll("( [a-z]\\w*)(?=[,)])", "").replace(" = -1", ""));
            }
        }
        Class<?> c = FareyRank.class;
        TreeSet<String> got = new TreeSet<>();
        TreeSet<String> names = new TreeSet<>();
        Arrays.stream(c.getDeclaredConstructors()).forEach(k -> got.add("public FareyRank();"));
        for (Method m : c.getDeclaredMethods()) {
            if (!Modifier.isPrivate(m.getModifiers())) {
                names.add(m.getName());
                String types = Arrays.stream(m.getParameterTypes()).map(Class::getSimpleName)
                    .collect(Collectors.joining(", "));
                got.add(Modifier.toString(m.getModifiers()) + " " + m.getReturnType() + " "
                    + m.getName() + "(" + types + ");");
            }
        }
        for (Field f : c.getDeclaredFields()) {
            if (!Modifier.isPrivate(f.getModifiers())) {
                got.add(Modifier.toString(f.getModifiers()) + " " + f.getType() + " "
                    + f.getName() + ";");
            }
        }
        Check.due("the public face", got.toString(), want.toString());
        Check.due("how many members", want.size(), 61);
        Check.due("NONE", FareyRank.NONE, -1);
        Check.due("the class is public and final", Modifier.toString(c.getModifiers()),
            "public final");
        inside(c, names);
        Check.end();
    }

    private static void inside(Class<?> c, TreeSet<String> names) {
        List<Class<?>> all = new ArrayList<>(Arrays.asList(c.getDeclaredClasses()));
        for (Class<?> inner : all) {
            int mod = inner.getModifiers();
            Check.due(inner + " is static", Modifier.isStatic(mod), true);
            Check.due(inner + " is not public", Modifier.isPublic(mod), false);
            Check.due(inner + " has none inside", inner.getDeclaredClasses().length, 0);
        }
        all.add(c);
        Check.due("at most twelve classes", all.size() <= 12, true);
        for (Class<?> k : all) {
            for (Method m : k.getDeclaredMethods()) {
                boolean hidden = k != c || Modifier.isPrivate(m.getModifiers());
                Check.due(k + "." + m.getName() + " bears the name of a public one",
                    hidden && names.contains(m.getName()), false);
                Check.due(m + " takes more than seven", m.getParameterCount() > 7, false);
            }
            int fields = 0;
            for (Field f : k.getDeclaredFields()) {
                boolean fixed = Modifier.isStatic(f.getModifiers());
                fields += fixed ? 0 : 1;
                Check.due(f + " is static and not final",
                    fixed && !Modifier.isFinal(f.getModifiers()), false);
            }
            Check.due(k + " has more than twenty fields", fields > 20, false);
        }
    }
}
