import java.lang.reflect.Constructor;
import java.lang.reflect.Executable;
import java.lang.reflect.Field;
import java.lang.reflect.Modifier;
import java.io.IOException;
import java.nio.file.Files;
import java.nio.file.Path;
import java.util.ArrayList;
import java.util.Arrays;
import java.util.HashSet;
import java.util.List;
import java.util.Set;
import java.util.regex.Matcher;
import java.util.regex.Pattern;

/**
 * What of LANGUAGE.md can be seen in the compiled class (classes, members, fields, parameters, types) and in its source,
 * whose path the property "house" tells (words, the library's functions, how long methods are).
 */
public final class LanguageTest {
    public static void main(String[] args) throws IOException {
        String path = System.getProperty("house");
        if (path == null) System.out.println("no source is told: run with -Dhouse=.../PostHouse.java");
        else source(Files.readString(Path.of(path)));
        List<Class<?>> all = new ArrayList<>(List.of(PostHouse.class));
        all.addAll(Arrays.asList(PostHouse.class.getDeclaredClasses()));
        Check.due("11: at most twelve classes", all.size() <= 12 ? 1 : 0, 1);
        Set<String> face = new HashSet<>();
        for (Executable m : PostHouse.class.getDeclaredMethods()) if (Modifier.isPublic(m.getModifiers())) face.add(m.getName());
        for (Class<?> c : all) look(c, face);
        Check.finish();
    }

    private static void look(Class<?> c, Set<String> face) {
        boolean inside = c != PostHouse.class;
        if (inside) Check.due("1: " + c + " is static and not public", c.getModifiers() & (Modifier.STATIC | Modifier.PUBLIC | Modifier.PROTECTED), Modifier.STATIC);
        int fields = 0;
        for (Field f : c.getDeclaredFields()) {
            if (Modifier.isStatic(f.getModifiers())) Check.due("5: " + f + " is final", f.getModifiers() & Modifier.FINAL, Modifier.FINAL);
            else fields++;
            Class<?> kind = f.getType();
            while (kind.isArray()) kind = kind.getComponentType();
            boolean own = kind.isPrimitive() || kind == String.class || kind.getEnclosingClass() == PostHouse.class;
            Check.due("3: the type of " + f, own ? 1 : 0, 1);
        }
        Check.due("11: at most twenty fields in " + c, fields <= 20 ? 1 : 0, 1);
        for (Executable m : c.getDeclaredMethods()) {
            Check.due("11: at most seven parameters of " + m, m.getParameterCount() <= 7 ? 1 : 0, 1);
            Check.due("4: made by no other means: " + m, m.isSynthetic() ? 1 : 0, 0);
            boolean own = inside || !Modifier.isPublic(m.getModifiers());
            if (own && Modifier.isPrivate(m.getModifiers())) Check.due("1: no private method bears a public one's name: " + m, face.contains(m.getName()) ? 1 : 0, 0);
        }
        for (Constructor<?> k : c.getDeclaredConstructors()) Check.due("11: at most seven parameters of " + k, k.getParameterCount() <= 7 ? 1 : 0, 1);
    }

    private static void none(String rule, String text, String pattern) {
        Matcher m = Pattern.compile(pattern).matcher(text);
        Check.due(rule + ": " + pattern, m.find() ? m.group() : "", "");
    }

    private static void source(String source) {
        // Comments and written texts are no code.
        String code = source.replaceAll("(?s)/\\*.*?\\*/|//[^\n]*", " ").replaceAll("\"(?:\\\\.|[^\"\\\\])*\"", "\"\"");
        for (char c : source.toCharArray()) if (c > 255) Check.due("3: characters 0 to 255", c, 255);
        none("the file", code, "(?m)^package ");
        none("4", code, "(?m)^import (?!java\\.util\\.(Arrays|ArrayList|List|Iterator|NoSuchElementException);).*");
        none("4", code, "\\bSystem\\.(?!arraycopy\\()\\w+");
        none("4", code, "\\bArrays\\.(?!copyOf\\(|copyOfRange\\(|fill\\()\\w+");
        none("4", code, "\\b(Integer|Long|Math)\\.(?![a-z]\\w*\\()\\w+");
        none("4", code, "\\w+Exact\\b");
        none("2", code, "->|::");
        none("6", code, "\\b(finally|synchronized|assert|catch|try|getMessage|getClass|hashCode|equals)\\b");
        none("6", code, "\\bthrow (?!new (IllegalStateException|IllegalArgumentException|IndexOutOfBoundsException)\\()");
        none("5", code, "\\bstatic \\{");
        none("10", code, "\"\" \\+|\\+ \"\"");
        none("13", code, "\\b(Random|Thread|File|currentTimeMillis|nanoTime|getenv|getProperty)\\b");
        String[] lines = source.split("\n");
        for (int k = 0; k < lines.length; k++) {
            Matcher begins = Pattern.compile("( {4}| {8})\\S.*\\) (throws \\w+ )?\\{").matcher(lines[k]);
            if (!begins.matches()) continue;
            int end = k;
            while (end < lines.length && !lines[end].equals(begins.group(1) + "}")) end++;
            Check.due("11: a short method: " + lines[k].trim(), end - k <= 60 ? 1 : 0, 1);
        }
    }
}
