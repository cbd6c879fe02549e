import java.lang.reflect.Method;
import java.lang.reflect.Modifier;
import java.util.Arrays;
import java.util.List;
import java.util.TreeSet;

/** The public face, what an empty house refuses, and that all calls are refused while the house is DOWN. */
public final class DownTest {
    private static final List<String> WHILE_DOWN = Arrays.asList("feed", "end", "octet", "poke", "start");
    private static final String FACE = "about account address arrange assign audit bag bagAt balance bar book claim clerk closeBag count cut deposit "
        + "device effective end entry feed find forward frank hand hold into item lastPoint late leg locker lockerAt lose machine mended miss notice "
        + "now octet openBag openBox order orderAt out passes payOut pickUp pointAt poke post price put read refuse round row scan scanned sheet "
        + "sign sort start stop sync take tariff textLine tick trace verify way wish wrong";

    public static void main(String[] args) throws ReflectiveOperationException {
        face();
        constants();
        down();
        anyArguments();
        Check.finish();
    }

    private static void face() {
        TreeSet<String> names = new TreeSet<>();
        for (Method m : PostHouse.class.getDeclaredMethods()) {
            if (m.isSynthetic() || Modifier.isPrivate(m.getModifiers())) continue;
            Check.due("face: " + m.getName() + " is public", Modifier.isPublic(m.getModifiers()) ? 1 : 0, 1);
            names.add(m.getName());
        }
        Check.due("face: its methods", String.join(" ", names), FACE);
        Check.due("face: final", Modifier.isFinal(PostHouse.class.getModifiers()) ? 1 : 0, 1);
        for (java.lang.reflect.Field f : PostHouse.class.getDeclaredFields()) {
            boolean constant = Modifier.isPublic(f.getModifiers()) && Modifier.isStatic(f.getModifiers()) && Modifier.isFinal(f.getModifiers());
            Check.due("face: field " + f.getName(), constant || Modifier.isPrivate(f.getModifiers()) ? 1 : 0, 1);
        }
    }

    private static void constants() {
        int[] got = {PostHouse.NONE, PostHouse.UNKNOWN, PostHouse.OUTSIDE, PostHouse.STATE, PostHouse.ROOM, PostHouse.DOWN, PostHouse.LOST,
            PostHouse.HELD, PostHouse.RING, PostHouse.NOT_HIM, PostHouse.NO_PROOF, PostHouse.WRONG_SUM, PostHouse.BARRED, PostHouse.POOR};
        int[] due = {-1, -101, -102, -103, -104, -105, -106, -110, -111, -112, -113, -114, -115, -116};
        Check.due("face: constants", Arrays.toString(got), Arrays.toString(due));
    }

    private static Object[] zeros(Method m, int number) {
        Object[] args = new Object[m.getParameterCount()];
        for (int k = 0; k < args.length; k++) args[k] = m.getParameterTypes()[k] == boolean.class ? (Object) (number > 0) : (Object) number;
        return args;
    }

    private static void down() throws ReflectiveOperationException {
        PostHouse x = Town.built(10);
        x.item(0, 1, 0, 4, 1, 0);
        x.sync();
        x.tick(1);
        x.cut(0, 9);
        x.sync();
        for (Method m : PostHouse.class.getDeclaredMethods()) {
            if (!Modifier.isPublic(m.getModifiers()) || WHILE_DOWN.contains(m.getName())) continue;
            for (int number = -1; number <= 1; number++) {
                long got = ((Number) m.invoke(x, zeros(m, number))).longValue();
                Check.due("DOWN: " + m.getName() + " of " + number, got, Town.DOWN);
            }
        }
        Check.due("2: feed while it is DOWN", x.feed(0, 0, 0, 0, 0), 20);
        x.end(3);
        Check.due("6: start", x.start(), 4);
        Check.due("11: the tape stayed", x.book(), -1000);
    }

    /** No call may throw but as the document says, whatever it is given. */
    private static void anyArguments() throws ReflectiveOperationException {
        int[] numbers = {Integer.MIN_VALUE, -1000000, -2, -1, 0, 1, 2, 3, 4, 7, 29, 119, 120, 299, 300, 4096, 1000000000, Integer.MAX_VALUE};
        PostHouse x = null;
        java.util.Random random = new java.util.Random(3);
        Method[] methods = PostHouse.class.getDeclaredMethods();
        Arrays.sort(methods, java.util.Comparator.comparing(Method::getName));
        for (int k = 0; k < 60000; k++) {
            if (k % 400 == 0) {
                x = Town.built(10);
                x.item(0, 1, 0, 4, 1, 0);
            }
            Method m = methods[random.nextInt(methods.length)];
            if (!Modifier.isPublic(m.getModifiers())) continue;
            Object[] args = zeros(m, 0);
            for (int i = 0; i < args.length; i++) {
                args[i] = args[i] instanceof Boolean ? (Object) random.nextBoolean() : (Object) numbers[random.nextInt(random.nextBoolean() ? numbers.length : 8)];
            }
            try {
                m.invoke(x, args);
            } catch (java.lang.reflect.InvocationTargetException e) {
                boolean due = m.getExceptionTypes().length == 1 && m.getExceptionTypes()[0] == e.getCause().getClass();
                Check.due(m.getName() + Arrays.toString(args) + " threw " + e.getCause(), due ? 1 : 0, 1);
            }
        }
    }
}
