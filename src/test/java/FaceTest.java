import java.lang.reflect.Constructor;
import java.lang.reflect.Field;
import java.lang.reflect.Method;
import java.lang.reflect.Modifier;
import java.nio.file.Files;
import java.nio.file.Path;
import java.util.Arrays;
import java.util.Set;
import java.util.TreeSet;
import java.util.regex.Matcher;
import java.util.regex.Pattern;
import java.util.stream.Collectors;

/** The class's face is that of the document, word for word, and nothing else of it is seen from outside (LANGUAGE.md, rule 1). */
public final class FaceTest {
    public static void main(String[] args) throws Exception {
        Path document = Path.of(args.length > 0 ? args[0] : "../shared/DOC.md");
        Check.same("the face", face(), documented(Files.readString(document)));
        members();
        Check.report("FaceTest");
    }

    private static Set<String> documented(String document) {
        String block = document.substring(document.indexOf("public final class RepairStudio {"));
        block = block.substring(0, block.indexOf("\n}"));
        Set<String> lines = new TreeSet<>();
        Matcher m = Pattern.compile("^    public (.*);$", Pattern.MULTILINE).matcher(block);
        while (m.find()) {
            String line = m.group(1).replaceAll("(int|long|double|boolean) \\w+(?=[,)])", "$1");
            lines.add(line);
        }
        return lines;
    }

    private static Set<String> face() throws IllegalAccessException {
        Set<String> lines = new TreeSet<>();
        for (Field f : RepairStudio.class.getDeclaredFields()) {
            if (Modifier.isPublic(f.getModifiers())) {
                lines.add("static final " + f.getType() + " " + f.getName() + " = " + f.getInt(null));
            }
        }
        for (Constructor<?> c : RepairStudio.class.getDeclaredConstructors()) {
            lines.add("RepairStudio(" + names(c.getParameterTypes()) + ")" + thrown(c.getExceptionTypes()));
        }
        for (Method m : RepairStudio.class.getDeclaredMethods()) {
            if (Modifier.isPublic(m.getModifiers())) {
                lines.add(m.getReturnType() + " " + m.getName() + "(" + names(m.getParameterTypes()) + ")"
                        + thrown(m.getExceptionTypes()));
            }
        }
        return lines;
    }

    private static String names(Class<?>[] types) {
        return Arrays.stream(types).map(Class::getSimpleName).collect(Collectors.joining(", "));
    }

    private static String thrown(Class<?>[] types) {
        return types.length == 0 ? "" : " throws " + names(types);
    }

    private static void members() {
        Set<String> publicNames = new TreeSet<>();
        for (Method m : RepairStudio.class.getDeclaredMethods()) {
            if (Modifier.isPublic(m.getModifiers())) publicNames.add(m.getName());
        }
        for (Method m : RepairStudio.class.getDeclaredMethods()) {
            boolean isPublic = Modifier.isPublic(m.getModifiers());
            Check.same(m + " is public or private", isPublic || Modifier.isPrivate(m.getModifiers()), true);
            if (!isPublic) Check.same(m + " has a name of its own", publicNames.contains(m.getName()), false);
        }
        for (Field f : RepairStudio.class.getDeclaredFields()) {
            int is = f.getModifiers();
            Check.same(f + " is public or private", Modifier.isPublic(is) || Modifier.isPrivate(is), true);
            if (Modifier.isStatic(is)) Check.same(f + " is final", Modifier.isFinal(is), true);
        }
        Class<?>[] inner = RepairStudio.class.getDeclaredClasses();
        Check.same("at most twelve classes", inner.length <= 12, true);
        for (Class<?> c : inner) {
            Check.same(c + " is static", Modifier.isStatic(c.getModifiers()), true);
            Check.same(c + " is not public", Modifier.isPublic(c.getModifiers()), false);
            for (Method m : c.getDeclaredMethods()) {
                Check.same(m + " has at most seven parameters", m.getParameterCount() <= 7, true);
                Check.same(m + " has a name of its own", publicNames.contains(m.getName()), false);
            }
        }
    }
}
