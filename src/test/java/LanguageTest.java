import com.sun.management.ThreadMXBean;
import java.io.IOException;
import java.lang.management.ManagementFactory;
import java.lang.reflect.Constructor;
import java.lang.reflect.Field;
import java.lang.reflect.Method;
import java.lang.reflect.Modifier;
import java.nio.file.Files;
import java.nio.file.Path;
import java.util.Arrays;
import java.util.Set;
import java.util.TreeSet;
import java.util.regex.Matcher;
import java.util.regex.Pattern;

/** Those rules of LANGUAGE.md that can be seen from the face, the source text or the room that calls take. */
public final class LanguageTest {
    private static final Path SOURCE = Path.of("src/main/java/RoomRing.java");
    private static final Set<String> FACE = Set.of(
        "int host(int, int)", "int weighs(int, int)", "int goes(int)", "int key(int)", "int drops(int)",
        "int extra(int)", "int of(int, int)", "int mark(int, int)", "int at(int)", "int name(int)",
        "int share(int)", "int has(int)", "int about(int, int)", "int would(int)", "int without(int)",
        "int count(int)", "int type(int)", "int clear()", "int does()", "int back()", "int told(int)",
        "long digest()");
    private static final String[] FORBIDDEN = {"throw", "throws", "try", "catch", "synchronized", "assert",
        "import", "package", "protected", "->", "::", "native", "volatile", "transient", "super"};

    private static int wrong = 0;

    private static void expect(String rule, boolean holds) {
        if (!holds) {
            wrong++;
            System.out.println("not so: " + rule);
        }
    }

    public static void main(String[] args) throws IOException {
        expect("the class is public and final", Modifier.isPublic(RoomRing.class.getModifiers())
            && Modifier.isFinal(RoomRing.class.getModifiers()));
        checkMethods();
        checkFieldsAndConstructor();
        checkClasses();
        checkSource(withoutComments(Files.readString(SOURCE)));
        checkRoom();
        System.out.println(wrong == 0 ? "all rules are kept" : wrong + " rules are broken");
        if (wrong != 0) {
            System.exit(1);
        }
    }

    private static String signature(Method method) {
        String parameters = Arrays.toString(Arrays.stream(method.getParameterTypes()).map(Class::getName).toArray());
        return method.getReturnType() + " " + method.getName() + parameters.replace('[', '(').replace(']', ')');
    }

    private static void checkMethods() {
        Set<String> seen = new TreeSet<>();
        Set<String> publicNames = new TreeSet<>();
        for (Method method : RoomRing.class.getDeclaredMethods()) {
            if (!Modifier.isPrivate(method.getModifiers())) {
                expect(method + " is public", Modifier.isPublic(method.getModifiers()));
                seen.add(signature(method));
                publicNames.add(method.getName());
            }
        }
        expect("the methods are the document's, not " + seen, seen.equals(FACE));
        for (Class<?> inside : RoomRing.class.getDeclaredClasses()) {
            checkNames(inside, publicNames);
        }
        for (Method method : RoomRing.class.getDeclaredMethods()) {
            expect(method.getName() + " is no other method's name",
                !Modifier.isPrivate(method.getModifiers()) || !publicNames.contains(method.getName()));
        }
    }

    private static void checkNames(Class<?> inside, Set<String> publicNames) {
        for (Method method : inside.getDeclaredMethods()) {
            expect(method + " bears no name of the face", !publicNames.contains(method.getName()));
            expect(method + " takes at most seven", method.getParameterCount() <= 7);
        }
    }

    private static void checkFieldsAndConstructor() {
        Set<String> constants = new TreeSet<>();
        for (Field field : RoomRing.class.getDeclaredFields()) {
            if (!Modifier.isPrivate(field.getModifiers())) {
                constants.add(Modifier.toString(field.getModifiers()) + " " + field.getType() + " " + field.getName());
            }
            expect(field + " is final if it is static",
                !Modifier.isStatic(field.getModifiers()) || Modifier.isFinal(field.getModifiers()));
        }
        expect("the constants are the document's, not " + constants, constants.equals(Set.of(
            "public static final int NONE", "public static final int BAD",
            "public static final int NO", "public static final int FULL")));
        expect("NONE, BAD, NO, FULL", RoomRing.NONE == -1 && RoomRing.BAD == -2
            && RoomRing.NO == -3 && RoomRing.FULL == -4);
        Constructor<?>[] constructors = RoomRing.class.getDeclaredConstructors();
        expect("one public constructor without parameters", constructors.length == 1
            && Modifier.isPublic(constructors[0].getModifiers()) && constructors[0].getParameterCount() == 0);
    }

    private static void checkClasses() {
        Class<?>[] inside = RoomRing.class.getDeclaredClasses();
        expect("some twelve classes at most", inside.length + 1 <= 12);
        for (Class<?> c : inside) {
            int modifiers = c.getModifiers();
            expect(c + " is static", Modifier.isStatic(modifiers));
            expect(c + " is not public", !Modifier.isPublic(modifiers));
            long fields = Arrays.stream(c.getDeclaredFields()).filter(f -> !Modifier.isStatic(f.getModifiers())).count();
            expect(c + " has some twenty fields at most", fields <= 20);
        }
    }

    private static String withoutComments(String source) {
        return Pattern.compile("/\\*.*?\\*/|//[^\n]*", Pattern.DOTALL).matcher(source).replaceAll("");
    }

    private static void checkSource(String code) {
        for (String word : FORBIDDEN) {
            boolean letters = Character.isLetter(word.charAt(0));
            Pattern pattern = Pattern.compile(letters ? "\\b" + word + "\\b" : Pattern.quote(word));
            expect("no '" + word + "'", !pattern.matcher(code).find());
        }
        Matcher library = Pattern.compile("\\b(System|Math|Integer|Long|Arrays|String|StringBuilder)\\.(\\w+)").matcher(code);
        while (library.find()) {
            String call = library.group(1) + "." + library.group(2);
            expect(call + " is of the library", Set.of("System.arraycopy", "Math.max").contains(call));
        }
        expect("only signs 1 to 127", code.chars().allMatch(c -> c >= 1 && c <= 127));
    }

    /** One room holds all that a run makes, so calls make nothing: all rows are made with the object. */
    private static void checkRoom() {
        RoomRing x = new RoomRing();
        ThreadMXBean threads = (ThreadMXBean) ManagementFactory.getThreadMXBean();
        long id = Thread.currentThread().getId();
        useAll(x, 3000);
        threads.getThreadAllocatedBytes(id);
        long before = threads.getThreadAllocatedBytes(id);
        long sum = useAll(x, 3000);
        long made = threads.getThreadAllocatedBytes(id) - before;
        expect("calls make no objects, not " + made + " bytes (" + sum + ")", made < 3000);
    }

    private static long useAll(RoomRing x, int times) {
        long sum = 0;
        for (int i = 0; i < times; i++) {
            int n = i % 7, k = i * 37 % 1000;
            sum += x.host(n, 1 + i % 4) + x.weighs(n, 1 + i % 3) + x.key(k) + x.extra(i % 201);
            sum += x.of(n, i % 43) + x.mark(n, i % 8) + x.at(i % 101) + x.name(i % 7) + x.share(n);
            sum += x.has(k) + x.about(k, i % 3) + x.would(i % 1000) + x.without(n) + x.count(i % 9);
            sum += x.type("k1;d1;".charAt(i % 6)) + x.does() + x.told(i % 5) + x.digest();
            sum += i % 120 == 0 ? x.clear() : 0;
            sum += i % 5 == 0 ? x.goes(n) : i % 3 == 0 ? x.drops(k) : i % 7 == 0 ? x.back() : 0;
        }
        return sum;
    }
}
