import java.io.IOException;
import java.lang.management.ManagementFactory;
import java.lang.reflect.Constructor;
import java.lang.reflect.Field;
import java.lang.reflect.Method;
import java.lang.reflect.Modifier;
import java.nio.file.Files;
import java.nio.file.Path;
import java.util.Arrays;
import java.util.Set;
import java.util.TreeSet;
import java.util.regex.Pattern;

/** The public face, what of LANGUAGE.md can be seen from outside, and how much a call makes. */
public final class FaceTests {
    private static final String[] FACE = {
        "int letter(int)", "int blank()", "int fault()", "int strait()", "int about(int,int)", "int as(int,int)",
        "int fact(int,boolean)", "int ship(int,int)", "int shipOf(int,int)", "int ask(int,int,boolean)", "int breath()",
        "int atOnce(int)", "int hear(int,int,boolean,int,boolean)", "int forget()", "int worlds(int)", "int next()",
        "int kinds(int)", "int nights(int,int,int)", "int image()", "int restore()", "int count(int)", "long digest()"};
    private static final String[] CONSTANTS = {"FULL", "NONE", "OUTSIDE", "STATE", "UNKNOWN"};
    private static final String[] BARRED = {"throw", "throws", "try", "catch", "finally", "synchronized", "assert",
        "import", "package", "native", "volatile", "transient", "->", "::", "Exact", "toString", "hashCode", "System",
        "Object", "Random", "Thread"};
    private static final Check check = new Check();

    public static void main(String[] args) throws IOException {
        methods();
        constants();
        members();
        nestedClasses();
        source(Files.readString(Path.of(args[0])));
        whatCallsMake();
        check.end("FaceTests");
    }

    private static void methods() {
        Set<String> want = new TreeSet<>(Arrays.asList(FACE));
        Set<String> got = new TreeSet<>();
        for (Method method : GoingDark.class.getDeclaredMethods()) {
            boolean isPrivate = Modifier.isPrivate(method.getModifiers());
            if (!isPrivate) {
                StringBuilder text = new StringBuilder();
                text.append(method.getReturnType()).append(' ').append(method.getName()).append('(');
                for (Class<?> type : method.getParameterTypes()) {
                    text.append(text.charAt(text.length() - 1) == '(' ? "" : ",").append(type);
                }
                got.add(text.append(')').toString());
                check.holds(method.getName() + " is public", Modifier.isPublic(method.getModifiers()));
                check.holds(method.getName() + " is no static one", !Modifier.isStatic(method.getModifiers()));
            }
            check.holds(method.getName() + " has at most seven parameters", method.getParameterCount() <= 7);
        }
        check.holds("the methods are the document's: " + got, got.equals(want));
    }

    private static boolean isPublicName(String name) {
        for (String one : FACE) {
            if (one.contains(" " + name + "(")) {
                return true;
            }
        }
        return false;
    }

    private static void constants() {
        Set<String> got = new TreeSet<>();
        for (Field field : GoingDark.class.getFields()) {
            got.add(field.getName());
            boolean isFixed = Modifier.isStatic(field.getModifiers()) && Modifier.isFinal(field.getModifiers());
            check.holds(field.getName() + " is a constant", isFixed && field.getType() == int.class);
        }
        check.holds("the constants are the document's", got.equals(new TreeSet<>(Arrays.asList(CONSTANTS))));
    }

    private static void members() {
        check.holds("final", Modifier.isFinal(GoingDark.class.getModifiers()));
        check.holds("public", Modifier.isPublic(GoingDark.class.getModifiers()));
        Constructor<?>[] made = GoingDark.class.getDeclaredConstructors();
        check.holds("one constructor, public", made.length == 1 && Modifier.isPublic(made[0].getModifiers())
            && made[0].getParameterCount() == 0);
        for (Field field : GoingDark.class.getDeclaredFields()) {
            boolean isFace = Arrays.asList(CONSTANTS).contains(field.getName());
            check.holds(field.getName() + " is private", isFace || Modifier.isPrivate(field.getModifiers()));
            boolean isFixed = !Modifier.isStatic(field.getModifiers()) || Modifier.isFinal(field.getModifiers());
            check.holds(field.getName() + " is no state of all", isFixed);
        }
    }

    private static void nestedClasses() {
        Class<?>[] nested = GoingDark.class.getDeclaredClasses();
        check.holds("at most twelve classes", nested.length < 12);
        for (Class<?> one : nested) {
            check.holds(one + " is static", Modifier.isStatic(one.getModifiers()));
            check.holds(one + " is not public", !Modifier.isPublic(one.getModifiers()));
            check.holds(one + " has at most twenty fields", one.getDeclaredFields().length <= 20);
            for (Method method : one.getDeclaredMethods()) {
                check.holds(one + "." + method.getName() + " has a name of its own", !isPublicName(method.getName()));
            }
        }
    }

    private static void source(String text) {
        String code = text.replaceAll("(?s)/\\*.*?\\*/", "").replaceAll("//[^\n]*", "");
        for (String word : BARRED) {
            boolean isWord = Character.isLetter(word.charAt(0));
            String pattern = isWord && !word.equals("Exact") ? "\\b" + word + "\\b" : Pattern.quote(word);
            check.holds("no " + word, !Pattern.compile(pattern).matcher(code).find());
        }
        check.holds("signs 1 to 127", text.chars().allMatch(c -> c >= 1 && c <= 127));
        int length = 0;
        for (String line : text.split("\n")) {
            boolean isHead = line.matches(" {4,8}(public |private )?[^=;]*\\) \\{") && !line.matches(" *(if|for|while|switch).*");
            length = isHead ? 1 : length + 1;
            check.holds("methods of at most sixty lines: " + line, length <= 60 || !line.matches(" {8,}\\S.*"));
        }
    }

    /** A run's room is small, so calls take what the constructor made. */
    private static void whatCallsMake() {
        java.lang.management.ThreadMXBean bean = ManagementFactory.getThreadMXBean();
        if (!(bean instanceof com.sun.management.ThreadMXBean counter) || !counter.isThreadAllocatedMemorySupported()) {
            return;
        }
        GoingDark x = new GoingDark();
        allCalls(x);
        long before = counter.getCurrentThreadAllocatedBytes();
        for (int i = 0; i < 8; i++) {
            allCalls(x);
        }
        long made = counter.getCurrentThreadAllocatedBytes() - before;
        check.holds("calls make next to nothing, but made " + made, made < 4096);
    }

    private static void allCalls(GoingDark x) {
        x.blank();
        String text = "s1,i4,o6,l9,s3;29";
        for (int i = 0; i < text.length(); i++) {
            x.letter(text.charAt(i));
        }
        x.fault();
        x.strait();
        x.ship(3, 0);
        x.ship(0, 1);
        x.ask(0, 1, false);
        x.hear(0, 1, false, 1, false);
        x.image();
        x.breath();
        x.nights(40, 7, 0);
        x.restore();
        x.digest();
    }
}
