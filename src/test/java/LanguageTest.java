import java.io.IOException;
import java.lang.management.ManagementFactory;
import java.lang.reflect.Field;
import java.lang.reflect.Member;
import java.lang.reflect.Method;
import java.lang.reflect.Modifier;
import java.nio.file.Files;
import java.nio.file.Path;
import java.util.Arrays;
import java.util.Set;
import java.util.TreeSet;
import java.util.regex.Matcher;
import java.util.regex.Pattern;
import java.util.stream.Collectors;

/** The face, those rules of the language that a program can look at, and the room that calls take. */
public final class LanguageTest {
    private static final String FACE = "write(int) erase() fault() read() add(int,int) remove(int) support(int) undo() "
            + "keep(int) back(int) entry(int,int) cell(int,int) closure(int) kept(int) ask(int,int) part(int,int) "
            + "best(int) more(int,int) less(int,int) cap(int) key() rule(int,int) row(int,int) set(int,int,int) "
            + "work(int,int,int,int) bits(int,int) sum(int) load(int,int,int) drop(int) asked() count(int)";
    private static final String CONSTANTS = "NONE UNKNOWN OUTSIDE NOT FULL NULL INDEX SIZE OVER";
    private static final Pattern RULED_OUT = Pattern.compile(
            "\\b(throw|throws|try|catch|finally|synchronized|assert|import|package|double|float|var)\\b"
            + "|->|::|\\b\\w+Exact\\b|\\.(equals|hashCode|toString)\\b|while \\(true\\)|for \\(;;");
    /** What follows the name of a class of the library: rule 4 lists functions, and no constants of Integer or Long. */
    private static final Pattern OF_THE_LIBRARY = Pattern.compile(
            "\\b(Integer|Long|Math|System|Arrays|String|Character|Short|Byte|Boolean|List|Objects)\\.(\\w+)(\\()?");
    private static final String LISTED = "Integer.bitCount Long.bitCount Math.max Math.min System.arraycopy";
    private static final int MOST_LINES = 60;
    /** An object is used for 512 calls; some fifty of them fill it, and each round makes fifteen. */
    private static final int ROUNDS = 30;
    private static final int MOST_BYTES_FOR_AN_OBJECT = 40_000;

    private final Due due = new Due();

    public static void main(String[] args) throws IOException {
        LanguageTest test = new LanguageTest();
        test.face();
        test.classesInside();
        test.source();
        test.library();
        test.methodsAreShort();
        test.room();
        test.due.end();
    }

    private static Set<String> words(String words) {
        return new TreeSet<>(Arrays.asList(words.split(" ")));
    }

    private static String signature(Method method) {
        return method.getName() + Arrays.stream(method.getParameterTypes()).map(Class::getName)
                .collect(Collectors.joining(",", "(", ")"));
    }

    private void face() {
        due.part("the face");
        Set<String> methods = new TreeSet<>();
        Set<String> constants = new TreeSet<>();
        for (Method method : CubeClosures.class.getDeclaredMethods()) {
            if (isOnTheFace(method)) {
                methods.add(signature(method));
                due.is(method.getName() + " answers an int, asked a long",
                        method.getReturnType() == (method.getName().equals("asked") ? long.class : int.class) ? 1 : 0, 1);
            }
        }
        for (Field field : CubeClosures.class.getDeclaredFields()) {
            if (isOnTheFace(field)) {
                constants.add(field.getName());
            }
        }
        due.holds("methods " + methods, methods.equals(words(FACE)));
        due.holds("constants " + constants, constants.equals(words(CONSTANTS)));
        due.holds("one constructor", CubeClosures.class.getDeclaredConstructors().length == 1
                && CubeClosures.class.getConstructors().length == 1);
        due.holds("final", Modifier.isFinal(CubeClosures.class.getModifiers()));
    }

    private boolean isOnTheFace(Member member) {
        boolean isPublic = Modifier.isPublic(member.getModifiers());
        due.holds(member.getName() + " is public or private", isPublic || Modifier.isPrivate(member.getModifiers()));
        return isPublic;
    }

    private void classesInside() {
        due.part("classes inside");
        Set<String> names = new TreeSet<>();
        for (Method method : CubeClosures.class.getMethods()) {
            names.add(method.getName());
        }
        Class<?>[] inside = CubeClosures.class.getDeclaredClasses();
        due.holds("twelve classes at most", inside.length <= 11);
        for (Class<?> one : inside) {
            due.holds(one.getName() + " is static", Modifier.isStatic(one.getModifiers()));
            int fields = 0;
            for (Field field : one.getDeclaredFields()) {
                fields += Modifier.isStatic(field.getModifiers()) ? 0 : 1;
            }
            due.holds(one.getName() + " has twenty fields at most", fields <= 20);
            for (Method method : one.getDeclaredMethods()) {
                due.holds(one.getName() + "." + method.getName() + " bears no name of the face",
                        !names.contains(method.getName()));
                due.holds(method.getName() + " takes seven at most", method.getParameterCount() <= 7);
            }
        }
    }

    private static String sourceWithoutComments() throws IOException {
        String source = Files.readString(Path.of("src/main/java/CubeClosures.java"));
        return source.replaceAll("(?s)/\\*.*?\\*/", "").replaceAll("//[^\n]*", "");
    }

    private void source() throws IOException {
        due.part("the source");
        String source = sourceWithoutComments();
        Matcher matcher = RULED_OUT.matcher(source);
        while (matcher.find()) {
            due.holds("'" + matcher.group() + "' is ruled out", false);
        }
        due.holds("signs 1 to 127 alone", source.chars().allMatch(sign -> sign > 0 && sign < 128));
    }

    private void library() throws IOException {
        due.part("the library");
        Set<String> listed = words(LISTED);
        Matcher matcher = OF_THE_LIBRARY.matcher(sourceWithoutComments());
        while (matcher.find()) {
            String used = matcher.group(1) + "." + matcher.group(2);
            due.holds(used + " is a function that rule 4 lists", matcher.group(3) != null && listed.contains(used));
        }
    }

    private void methodsAreShort() throws IOException {
        due.part("the methods");
        int start = 0;
        int number = 0;
        for (String line : sourceWithoutComments().split("\n")) {
            number++;
            if (line.matches(" {4}( {4})?[a-zA-Z].*\\) \\{")) {
                start = number;
            }
            if (line.matches(" {4}( {4})?}") && start > 0) {
                due.holds("a method that ends at line " + number + " is short", number - start < MOST_LINES);
                start = 0;
            }
        }
    }

    private void room() {
        due.part("the room");
        com.sun.management.ThreadMXBean bean = (com.sun.management.ThreadMXBean) ManagementFactory.getThreadMXBean();
        long id = Thread.currentThread().getId();
        dearCalls(filled());
        long before = bean.getThreadAllocatedBytes(id);
        long nothing = bean.getThreadAllocatedBytes(id) - before;
        CubeClosures cube = filled();
        long made = bean.getThreadAllocatedBytes(id) - before - nothing;
        due.holds("an object takes " + made + " bytes", made <= MOST_BYTES_FOR_AN_OBJECT);
        before = bean.getThreadAllocatedBytes(id);
        dearCalls(cube);
        long taken = bean.getThreadAllocatedBytes(id) - before - nothing;
        due.is("bytes taken by calls", taken, 0);
    }

    private static CubeClosures filled() {
        CubeClosures cube = new CubeClosures();
        for (int i = 0; i < 13; i++) {
            cube.write("table 6 6 6 6".charAt(i));
        }
        cube.read();
        for (int i = 0; i < 39; i++) {
            int code = 0;
            for (int figure = 0; figure < 4; figure++) {
                code = code * 7 + 1 + (i * (figure + 3) + i / 6 * figure) % 6;
            }
            cube.add(code, i);
        }
        return cube;
    }

    private static void dearCalls(CubeClosures cube) {
        for (int round = 0; round < ROUNDS; round++) {
            cube.add(400, 1);
            cube.best(0);
            cube.cap(3);
            cube.key();
            cube.less(3, 0);
            cube.count(3);
            cube.undo();
            cube.more(400, 1);
            cube.keep(1);
            cube.back(1);
            cube.write(';');
            cube.fault();
            cube.row(1, 12);
            cube.load(1, 3, 0);
            cube.sum(1);
        }
    }
}
