import java.io.IOException;
import java.lang.management.ManagementFactory;
import java.lang.reflect.Constructor;
import java.lang.reflect.Field;
import java.lang.reflect.Method;
import java.lang.reflect.Modifier;
import java.nio.file.Files;
import java.nio.file.Path;
import java.util.Arrays;
import java.util.Set;
import java.util.TreeSet;
import java.util.regex.Pattern;

/** The face of the class, some rules of LANGUAGE.md, and the room that calls take. */
public final class FaceTest {
    private static final Path SOURCE = Path.of("src/main/java/LastForemost.java");
    private static int wrong = 0;

    private static void check(String what, boolean holds) {
        if (!holds) {
            wrong++;
            System.out.println("does not hold: " + what);
        }
    }

    public static void main(String[] args) throws IOException {
        face();
        nested();
        source();
        room();
        System.out.println(wrong == 0 ? "the face is as told" : wrong + " things do not hold");
        if (wrong != 0) {
            System.exit(1);
        }
    }

    private static Set<String> facesMethods() {
        return new TreeSet<>(Arrays.asList("int type 1", "int wipe 0", "int fault 0",
            "int person 2", "int waits 2", "int rain 2", "int set 2", "int love 3", "int read 1",
            "int seat 1", "int who 1", "int has 1", "int best 2", "int rest 1", "int change 2",
            "int changes 0", "int churches 1", "int sat 2", "int front 2", "int forget 0",
            "int came 1", "int sure 0", "long fair 2", "int lot 2", "int sunday 2", "long late 2",
            "long allLate 1", "int sheet 3", "int lose 1", "int lay 4", "int get 3", "int copy 5",
            "int write 1", "int count 1", "long digest 0"));
    }

    private static void face() {
        Class<?> face = LastForemost.class;
        check("the class is public and final",
            Modifier.isPublic(face.getModifiers()) && Modifier.isFinal(face.getModifiers()));
        Set<String> methods = new TreeSet<>();
        for (Method m : face.getDeclaredMethods()) {
            if (Modifier.isPublic(m.getModifiers())) {
                methods.add(m.getReturnType() + " " + m.getName() + " " + m.getParameterCount());
                for (Class<?> parameter : m.getParameterTypes()) {
                    check(m + " takes ints", parameter == int.class);
                }
                check(m + " is no static one", !Modifier.isStatic(m.getModifiers()));
            } else {
                check(m + " is private", m.isSynthetic() || Modifier.isPrivate(m.getModifiers()));
            }
        }
        check("the public methods are " + methods, methods.equals(facesMethods()));
        Constructor<?>[] constructors = face.getDeclaredConstructors();
        check("one public constructor", constructors.length == 1
            && Modifier.isPublic(constructors[0].getModifiers())
            && constructors[0].getParameterCount() == 0);
        Set<String> constants = new TreeSet<>();
        for (Field f : face.getDeclaredFields()) {
            if (Modifier.isPublic(f.getModifiers())) {
                constants.add(f.getName());
            } else {
                check(f + " is private", Modifier.isPrivate(f.getModifiers()));
            }
            check(f + " is final if static",
                !Modifier.isStatic(f.getModifiers()) || Modifier.isFinal(f.getModifiers()));
        }
        check("the public constants are " + constants,
            constants.equals(new TreeSet<>(Arrays.asList("NONE", "BAD", "NOT", "FULL"))));
        check("their values", LastForemost.NONE == -1 && LastForemost.BAD == -2
            && LastForemost.NOT == -3 && LastForemost.FULL == -4);
    }

    private static void nested() {
        Set<String> taken = new TreeSet<>();
        for (String method : facesMethods()) {
            taken.add(method.split(" ")[1]);
        }
        Class<?>[] inside = LastForemost.class.getDeclaredClasses();
        check("some twelve classes at most", inside.length <= 12);
        for (Class<?> c : inside) {
            check(c + " is static and not public", Modifier.isStatic(c.getModifiers())
                && !Modifier.isPublic(c.getModifiers()) && !Modifier.isProtected(c.getModifiers()));
            for (Method m : c.getDeclaredMethods()) {
                check(m + " has a name of its own", !taken.contains(m.getName()));
                check(m + " takes seven at most", m.getParameterCount() <= 7);
            }
        }
    }

    private static void source() throws IOException {
        String code = Files.readString(SOURCE).replaceAll("(?s)/\\*.*?\\*/", " ")
            .replaceAll("//[^\n]*", " ");
        for (String word : new String[] {"throw", "throws", "try", "catch", "synchronized",
            "assert", "import", "package", "protected", "Object", "System\\.(?!arraycopy)",
            "\\w+Exact", "MIN_VALUE", "MAX_VALUE", "->", "::", "@"}) {
            String pattern = word.matches("\\w+") ? "\\b" + word + "\\b" : word;
            check("the source has no " + word, !Pattern.compile(pattern).matcher(code).find());
        }
    }

    /** After the first round, calls make nothing new. */
    private static void room() {
        LastForemost x = new LastForemost();
        for (char c : "104;053;202;101;300;596".toCharArray()) {
            x.type(c);
        }
        round(x);
        com.sun.management.ThreadMXBean threads =
            (com.sun.management.ThreadMXBean) ManagementFactory.getThreadMXBean();
        long id = Thread.currentThread().getId();
        long before = threads.getThreadAllocatedBytes(id);
        for (int i = 0; i < 10; i++) {
            round(x);
        }
        long made = threads.getThreadAllocatedBytes(id) - before;
        check("ten rounds make next to nothing, not " + made + " bytes", made < 4096);
    }

    private static void round(LastForemost x) {
        x.love(0, 1, 3);
        x.sat(0, 1);
        x.front(2, 3);
        x.forget();
        x.sunday(0, 1);
        x.sheet(0, 1, 9);
        x.lay(0, 1, 3, 4);
        x.copy(0, 0, 0, 1, 3);
        x.write(0);
        x.read(0);
        x.digest();
        x.lose(0);
    }
}
