import java.io.IOException;
import java.lang.reflect.Constructor;
import java.lang.reflect.Field;
import java.lang.reflect.Method;
import java.lang.reflect.Modifier;
import java.nio.file.Files;
import java.nio.file.Path;
import java.util.Set;
import java.util.TreeSet;
import java.util.regex.Pattern;

/** The face of all promises, and the rules of LANGUAGE.md that a machine sees easily. */
public final class FaceTest {
    private static final Set<String> FACE = Set.of(
            "int receive(int, int, long)", "boolean tick(int)", "int run(int)", "void bus(boolean)",
            "void restart()", "int nextIdentifier()", "int nextLength()", "long nextData()", "boolean take()",
            "int waiting()", "int lost()", "int object(int, int)", "int network()", "int power()", "int speed()",
            "int position()", "int word(int, int)");

    private static final String[] FORBIDDEN = {
        "\\b(import|package|throw|throws|try|catch|synchronized|assert|volatile|native|transient)\\b", "->", "::",
        "\\bSystem\\.(?!arraycopy)", "\\b(Random|Thread|Object|Long\\.M|Integer\\.M)", "Exact\\(",
    };

    public static void main(String[] args) throws IOException {
        face();
        nested();
        source();
        makesNothing();
        Check.end();
    }

    private static void face() {
        Class<?> type = BusServo.class;
        Check.holds("public final", Modifier.isPublic(type.getModifiers()) && Modifier.isFinal(type.getModifiers()));
        Set<String> found = new TreeSet<>();
        Set<String> names = new TreeSet<>();
        for (Method m : type.getDeclaredMethods()) {
            if (Modifier.isPublic(m.getModifiers())) {
                found.add(signature(m));
                names.add(m.getName());
            }
        }
        Check.holds("the methods " + found, found.equals(FACE));
        for (Method m : type.getDeclaredMethods()) {
            boolean open = Modifier.isPublic(m.getModifiers());
            Check.holds("public or private: " + m, open || Modifier.isPrivate(m.getModifiers()));
            Check.holds("named as a public one: " + m, open || !names.contains(m.getName()));
        }
        Constructor<?>[] constructors = type.getDeclaredConstructors();
        Check.same("constructors", constructors.length, 1);
        Check.same("its parameters", constructors[0].getParameterCount(), 1);
        for (Field f : type.getDeclaredFields()) {
            boolean open = f.getName().equals("REFUSED");
            Check.holds("field " + f, open ? Modifier.isPublic(f.getModifiers()) : Modifier.isPrivate(f.getModifiers()));
            Check.holds("static is final: " + f, !Modifier.isStatic(f.getModifiers()) || Modifier.isFinal(f.getModifiers()));
        }
    }

    private static String signature(Method m) {
        StringBuilder text = new StringBuilder(m.getReturnType().getName()).append(' ').append(m.getName()).append('(');
        for (Class<?> p : m.getParameterTypes()) {
            text.append(text.charAt(text.length() - 1) == '(' ? "" : ", ").append(p.getName());
        }
        return text.append(')').toString();
    }

    private static void nested() {
        Class<?>[] classes = BusServo.class.getDeclaredClasses();
        Check.holds("not more than twelve classes", classes.length + 1 <= 12);
        for (Class<?> c : classes) {
            Check.holds("static: " + c, Modifier.isStatic(c.getModifiers()));
            Check.fails("not public: " + c, Modifier.isPublic(c.getModifiers()));
            int fields = 0;
            for (Field f : c.getDeclaredFields()) {
                boolean fixed = Modifier.isStatic(f.getModifiers());
                fields += fixed ? 0 : 1;
                Check.holds("static is final: " + f, !fixed || Modifier.isFinal(f.getModifiers()));
            }
            Check.holds("fields of " + c, fields <= 20);
            for (Method m : c.getDeclaredMethods()) {
                Check.holds("parameters of " + m, m.getParameterCount() <= 7);
            }
        }
    }

    private static void source() throws IOException {
        String text = Files.readString(Path.of("src/main/java/BusServo.java"));
        String code = text.replaceAll("(?s)/\\*.*?\\*/", "").replaceAll("//.*", "");
        for (String word : FORBIDDEN) {
            Check.fails("'" + word + "' in the program", Pattern.compile(word).matcher(code).find());
        }
    }

    /** Only a constructor makes objects: the dearest run of calls must not fill the room. */
    private static void makesNothing() {
        com.sun.management.ThreadMXBean threads =
                (com.sun.management.ThreadMXBean) java.lang.management.ManagementFactory.getThreadMXBean();
        long thread = Thread.currentThread().getId();
        busyRun();
        long before = threads.getThreadAllocatedBytes(thread);
        busyRun();
        long made = threads.getThreadAllocatedBytes(thread) - before;
        Check.holds("bytes made by 512 calls: " + made, made < 20000);
    }

    private static void busyRun() {
        BusServo servo = new BusServo(5);
        servo.receive(0, 2, 1);
        for (int k = 0; k < 100; k++) {
            servo.receive(0x605, 8, Bench.frame(0x2B, 0x6040, 0, k < 5 ? 6 : 15));
            servo.run(100);
            servo.object(0x6041, 0);
            servo.take();
            if (k % 30 == 29) {
                servo.restart();
            }
        }
    }
}
