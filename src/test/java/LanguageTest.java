import java.lang.reflect.Constructor;
import java.lang.reflect.Executable;
import java.lang.reflect.Field;
import java.lang.reflect.Modifier;
import java.util.ArrayList;
import java.util.Arrays;
import java.util.HashSet;
import java.util.List;
import java.util.Set;

/** What of LANGUAGE.md can be seen in the compiled class: classes, members, fields, parameters, types. */
public final class LanguageTest {
    public static void main(String[] args) {
        List<Class<?>> all = new ArrayList<>(List.of(PostHouse.class));
        all.addAll(Arrays.asList(PostHouse.class.getDeclaredClasses()));
        Check.due("11: at most twelve classes", all.size() <= 12 ? 1 : 0, 1);
        Set<String> face = new HashSet<>();
        for (Executable m : PostHouse.class.getDeclaredMethods()) if (Modifier.isPublic(m.getModifiers())) face.add(m.getName());
        for (Class<?> c : all) look(c, face);
        Check.finish();
    }

    private static void look(Class<?> c, Set<String> face) {
        boolean inside = c != PostHouse.class;
        if (inside) Check.due("1: " + c + " is static and not public", c.getModifiers() & (Modifier.STATIC | Modifier.PUBLIC | Modifier.PROTECTED), Modifier.STATIC);
        int fields = 0;
        for (Field f : c.getDeclaredFields()) {
            if (Modifier.isStatic(f.getModifiers())) Check.due("5: " + f + " is final", f.getModifiers() & Modifier.FINAL, Modifier.FINAL);
            else fields++;
            Class<?> kind = f.getType();
            while (kind.isArray()) kind = kind.getComponentType();
            boolean own = kind.isPrimitive() || kind == String.class || kind.getEnclosingClass() == PostHouse.class;
            Check.due("3: the type of " + f, own ? 1 : 0, 1);
        }
        Check.due("11: at most twenty fields in " + c, fields <= 20 ? 1 : 0, 1);
        for (Executable m : c.getDeclaredMethods()) {
            Check.due("11: at most seven parameters of " + m, m.getParameterCount() <= 7 ? 1 : 0, 1);
            Check.due("4: made by no other means: " + m, m.isSynthetic() ? 1 : 0, 0);
            boolean own = inside || !Modifier.isPublic(m.getModifiers());
            if (own && Modifier.isPrivate(m.getModifiers())) Check.due("1: no private method bears a public one's name: " + m, face.contains(m.getName()) ? 1 : 0, 0);
        }
        for (Constructor<?> k : c.getDeclaredConstructors()) Check.due("11: at most seven parameters of " + k, k.getParameterCount() <= 7 ? 1 : 0, 1);
    }
}
