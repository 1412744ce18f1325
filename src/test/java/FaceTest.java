import java.io.IOException;
import java.lang.management.ManagementFactory;
import java.lang.reflect.Constructor;
import java.lang.reflect.Field;
import java.lang.reflect.InvocationTargetException;
import java.lang.reflect.Method;
import java.lang.reflect.Modifier;
import java.nio.file.Files;
import java.nio.file.Path;
import java.util.ArrayList;
import java.util.List;
import java.util.Random;
import java.util.TreeSet;
import java.util.regex.Matcher;
import java.util.regex.Pattern;

/** The public face, that no call ever throws, and what a run makes. */
public final class FaceTest {
    private static final String METHODS = "back() can(1) company(2) count(1) fault() forget() from(1) give(3) hand(3) "
            + "join(2) keep() lasts(1) lay() light(2) line(2) meet(3) pass(1) put(2) rain(1) rains(4) rows(3) see(1) "
            + "stays(3) tell(3) undo() winter(3) wipe() write(1)";
    private static final int[] NUMBERS = {Integer.MIN_VALUE, Integer.MIN_VALUE + 1, -65536, -5, -4, -3, -2, -1, 0, 1, 2,
        3, 4, 5, 6, 7, 8, 9, 10, 24, 25, 60, 61, 99, 100, 126, 127, 9999, 10000, 1 << 30, Integer.MAX_VALUE - 1,
        Integer.MAX_VALUE};
    private static final String FULL_TEXT = "t1234;t2345;t3456;t4567;t5678;t6780;t7801;t8012;t0123;"
            + "r3;r3;r3;r3;r3;r3;r3;r3;c0,20,9,9,9,9;c0,20,9,9,9,9;c0,20,9,9,9,9;c0,20,9,9,9,9;";

    private static int wrong = 0;

    public static void main(String[] args) throws IOException {
        face();
        asWritten();
        neverThrows();
        makesLittle();
        System.out.println(wrong == 0 ? "the face holds" : wrong + " faults");
        if (wrong != 0) {
            System.exit(1);
        }
    }

    private static void due(String what, Object got, Object want) {
        if (!got.equals(want)) {
            wrong++;
            System.out.println(what + ": " + got + ", due is " + want);
        }
    }

    private static void face() {
        Class<EmberTale> face = EmberTale.class;
        due("public and final", face.getModifiers(), Modifier.PUBLIC | Modifier.FINAL);
        TreeSet<String> methods = new TreeSet<>();
        TreeSet<String> hidden = new TreeSet<>();
        for (Method method : face.getDeclaredMethods()) {
            if (Modifier.isPrivate(method.getModifiers())) {
                hidden.add(method.getName());
                continue;
            }
            String count = method.getParameterCount() == 0 ? "" : String.valueOf(method.getParameterCount());
            methods.add(method.getName() + "(" + count + ")");
            due(method + " is public alone", method.getModifiers(), Modifier.PUBLIC);
            due(method + " answers", method.getReturnType(), int.class);
            due(method + " throws", method.getExceptionTypes().length, 0);
            for (Class<?> type : method.getParameterTypes()) {
                due(method + " takes", type, int.class);
            }
        }
        due("methods", String.join(" ", methods), METHODS);
        for (String name : hidden) {
            due(name + " is a public name too", (" " + METHODS).contains(" " + name + "("), false);
        }
        for (Constructor<?> constructor : face.getDeclaredConstructors()) {
            due("constructor", constructor.toString(), "public EmberTale()");
        }
        TreeSet<String> constants = new TreeSet<>();
        for (Field field : face.getDeclaredFields()) {
            if (!Modifier.isPrivate(field.getModifiers())) {
                constants.add(Modifier.toString(field.getModifiers()) + " " + field.getType() + " " + field.getName());
            }
        }
        due("constants", String.join(", ", constants), "public static final int BAD, public static final int FULL, "
                + "public static final int NO, public static final int NONE");
        for (Class<?> inside : face.getDeclaredClasses()) {
            due(inside + " is static", Modifier.isStatic(inside.getModifiers()), true);
            due(inside + " is public", Modifier.isPublic(inside.getModifiers()), false);
        }
    }

    private static void neverThrows() {
        List<Method> methods = new ArrayList<>();
        for (Method method : EmberTale.class.getDeclaredMethods()) {
            if (Modifier.isPublic(method.getModifiers())) {
                methods.add(method);
            }
        }
        methods.sort((a, b) -> a.getName().compareTo(b.getName()));
        Random random = new Random(31);
        for (int run = 0; run < 200 && wrong < 20; run++) {
            EmberTale x = run % 2 == 0 ? new EmberTale() : full();
            for (int call = 0; call < 1500; call++) {
                Method method = methods.get(random.nextInt(methods.size()));
                Object[] numbers = new Object[method.getParameterCount()];
                for (int i = 0; i < numbers.length; i++) {
                    numbers[i] = random.nextInt(4) == 0 ? NUMBERS[random.nextInt(NUMBERS.length)] : random.nextInt(4);
                }
                call(x, method, numbers);
            }
        }
    }

    private static void call(EmberTale x, Method method, Object[] numbers) {
        try {
            int answer = (Integer) method.invoke(x, numbers);
            if (answer < -4) {
                wrong++;
                System.out.println(method.getName() + List.of(numbers) + " answered " + answer);
            }
        } catch (InvocationTargetException | IllegalAccessException e) {
            wrong++;
            System.out.println(method.getName() + List.of(numbers) + " threw " + e.getCause());
        }
    }

    private static EmberTale full() {
        EmberTale x = new EmberTale();
        for (int i = 0; i < FULL_TEXT.length(); i++) {
            x.write(FULL_TEXT.charAt(i));
        }
        due("lay", x.lay(), 4);
        return x;
    }

    /** The room of a run: whatever the calls, an object makes its rows once. */
    private static void makesLittle() {
        com.sun.management.ThreadMXBean threads =
                (com.sun.management.ThreadMXBean) ManagementFactory.getThreadMXBean();
        long thread = Thread.currentThread().getId();
        dearCalls(full());
        EmberTale x = full();
        long before = threads.getThreadAllocatedBytes(thread);
        dearCalls(x);
        long made = threads.getThreadAllocatedBytes(thread) - before;
        due("bytes made by dear calls are few (" + made + ")", made < 100_000, true);
    }

    private static void dearCalls(EmberTale x) {
        for (int i = 0; i < 50; i++) {
            x.stays(0, 6, -1);
            x.tell(0, 8, -1);
            x.meet(0, 1, -1);
            x.give(0, 1, 6);
            x.rains(0, 8, 5, 0);
            x.winter(i, 60, 1);
            x.put(0, 2);
            x.keep();
            x.back();
            x.lay();
        }
    }

    /** Each line of the document's face, in its order; ahead of each group of calls what the interface says there. */
    private static void asWritten() throws IOException {
        String document = Files.readString(Path.of("../shared/DOC.md"));
        List<String> face = lines("(?m)^ *(public .*?)(?: \\{|;)$", document);
        List<String> source = lines("(?m)^(?:    )?(public .*?)(?: \\{|;)$",
                Files.readString(Path.of("src/main/java/EmberTale.java")));
        due("members of the document", face.size(), 31);
        due("members, in this order", source, face);

        Matcher group = Pattern.compile("Ahead of the calls ([`a-z, ]+) the interface says: (---- .*)")
                .matcher(document);
        List<String> groups = new ArrayList<>();
        while (group.find()) {
            groups.add(group.group(2) + " " + group.group(1).replace("`", "").replace(",", ""));
        }
        due("groups of calls in the document", groups.size(), 5);
        due("groups of calls", groupsOfTheSource(), groups);
    }

    private static List<String> groupsOfTheSource() throws IOException {
        List<String> groups = new ArrayList<>();
        Matcher line = Pattern.compile("(?m)^    // (---- .*)$|^    public int (\\w+)\\(")
                .matcher(Files.readString(Path.of("src/main/java/EmberTale.java")));
        while (line.find()) {
            if (line.group(1) != null) {
                groups.add(line.group(1));
            } else if (!groups.isEmpty()) {
                groups.set(groups.size() - 1, groups.get(groups.size() - 1) + " " + line.group(2));
            }
        }
        return groups;
    }

    private static List<String> lines(String pattern, String text) {
        List<String> lines = new ArrayList<>();
        Matcher line = Pattern.compile(pattern).matcher(text);
        while (line.find()) {
            lines.add(line.group(1));
        }
        return lines;
    }
}
