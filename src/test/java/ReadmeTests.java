import java.io.IOException;
import java.lang.reflect.Field;
import java.lang.reflect.Method;
import java.lang.reflect.Modifier;
import java.nio.file.Files;
import java.nio.file.Path;
import java.util.ArrayList;
import java.util.List;
import java.util.Set;
import java.util.TreeMap;
import java.util.TreeSet;
import java.util.regex.Matcher;
import java.util.regex.Pattern;
import java.util.stream.Stream;

/** What README.md tells is so: its examples, its tables of calls and constants, and its list of tests. */
public final class ReadmeTests {
    private static final Pattern WRITTEN = Pattern.compile("for \\(char c : \"(.*)\"\\.toCharArray\\(\\)\\) \\{");
    private static final Pattern CALL = Pattern.compile("x\\.(\\w+)\\((.*?)\\); +// (-?\\d+): \\S.*");
    private static final Pattern ROW = Pattern.compile("\\| `(\\w+)\\((.*?)\\)` \\| (.*) \\| ?(.*)\\|");
    private static final Pattern CONSTANT = Pattern.compile("\\| `([A-Z]+)` \\| (-?\\d+) \\| .* \\|");
    private static final Pattern REFUSAL = Pattern.compile("UNKNOWN|OUTSIDE|STATE|FULL");
    /** As the document tells them: parameters by name, refusals in the order in which they are looked at. */
    private static final String[] CALLS = {
        "letter(code) [OUTSIDE, FULL]", "blank() []", "fault() []", "strait() [STATE]",
        "about(light, what) [UNKNOWN, OUTSIDE]", "as(light, kind) [UNKNOWN, OUTSIDE]", "fact(fact, is) [UNKNOWN, STATE]",
        "ship(place, course) [UNKNOWN, OUTSIDE, STATE, FULL]", "shipOf(ship, what) [UNKNOWN, OUTSIDE]",
        "ask(light, fact, turned) [UNKNOWN, STATE]", "breath() [STATE]", "atOnce(what) [OUTSIDE, STATE]",
        "hear(light, fact, turned, breath, yes) [UNKNOWN, OUTSIDE, FULL]", "forget() []",
        "worlds(what) [OUTSIDE, STATE]", "next() [STATE]", "kinds(light) [UNKNOWN]",
        "nights(breaths, seed, what) [OUTSIDE, STATE]", "image() [STATE]", "restore() [STATE]", "count(what) [OUTSIDE]",
        "digest() []"};
    private static final Check check = new Check();

    public static void main(String[] args) throws IOException, ReflectiveOperationException {
        Path root = Path.of(args[0]).toAbsolutePath().getParent().getParent().getParent().getParent();
        List<String> page = Files.readAllLines(root.resolve("README.md"));
        examples(page);
        calls(page);
        constants(page);
        tests(String.join("\n", page), root.resolve("src/test/java"));
        check.end("ReadmeTests");
    }

    private static void examples(List<String> page) throws ReflectiveOperationException {
        GoingDark x = new GoingDark();
        boolean isCode = false;
        int called = 0;
        for (String line : page) {
            if (line.startsWith("```")) {
                isCode = line.equals("```java");
                continue;
            }
            Matcher call = CALL.matcher(line);
            Matcher written = WRITTEN.matcher(line);
            if (!isCode) {
                continue;
            }
            if (call.matches()) {
                check.due("README: " + line, answer(x, call.group(1), call.group(2)), Long.parseLong(call.group(3)));
                called++;
            } else if (written.matches()) {
                EdgeSuite.write(x, written.group(1));
            } else {
                boolean isKnown = line.equals("GoingDark x = new GoingDark();") || line.equals("    x.letter(c);")
                    || line.equals("}");
                check.holds("README: a line that this test can run: " + line, isKnown);
            }
        }
        check.holds("README has examples", called > 20);
    }

    private static long answer(GoingDark x, String name, String given) throws ReflectiveOperationException {
        List<Object> values = new ArrayList<>();
        List<Class<?>> types = new ArrayList<>();
        for (String one : given.isEmpty() ? new String[0] : given.split(", ")) {
            boolean isTruth = one.equals("true") || one.equals("false");
            types.add(isTruth ? boolean.class : int.class);
            if (isTruth) {
                values.add(Boolean.valueOf(one));
            } else {
                values.add(Integer.valueOf(one));
            }
        }
        Method method = GoingDark.class.getMethod(name, types.toArray(new Class<?>[0]));
        return ((Number) method.invoke(x, values.toArray())).longValue();
    }

    private static void calls(List<String> page) {
        List<String> told = new ArrayList<>();
        for (String line : page) {
            Matcher row = ROW.matcher(line);
            if (row.matches()) {
                told.add(row.group(1) + "(" + row.group(2) + ") " + refusals(row.group(4)));
            }
        }
        List<String> due = List.of(CALLS);
        check.due("README: how many calls", told.size(), due.size());
        for (int i = 0; i < Math.min(told.size(), due.size()); i++) {
            check.holds("README: " + told.get(i) + ", due is " + due.get(i), told.get(i).equals(due.get(i)));
        }
    }

    private static List<String> refusals(String text) {
        List<String> found = new ArrayList<>();
        Matcher refusal = REFUSAL.matcher(text);
        while (refusal.find()) {
            found.add(refusal.group());
        }
        return found;
    }

    private static void constants(List<String> page) throws ReflectiveOperationException {
        TreeMap<String, Integer> told = new TreeMap<>();
        for (String line : page) {
            Matcher row = CONSTANT.matcher(line);
            if (row.matches()) {
                told.put(row.group(1), Integer.valueOf(row.group(2)));
            }
        }
        TreeMap<String, Integer> due = new TreeMap<>();
        for (Field field : GoingDark.class.getFields()) {
            if (Modifier.isStatic(field.getModifiers())) {
                due.put(field.getName(), field.getInt(null));
            }
        }
        check.holds("README: constants " + told + ", due is " + due, told.equals(due));
    }

    private static void tests(String page, Path folder) throws IOException {
        Set<String> due = new TreeSet<>();
        try (Stream<Path> files = Files.list(folder)) {
            files.map(file -> file.getFileName().toString()).filter(name -> name.endsWith("Tests.java"))
                .forEach(name -> due.add(name.replace(".java", "")));
        }
        Set<String> told = new TreeSet<>();
        Matcher name = Pattern.compile("`(\\w+Tests)`").matcher(page);
        while (name.find()) {
            told.add(name.group(1));
        }
        check.holds("README: tests " + told + ", due is " + due, told.equals(due));
        check.holds("README tells of .ci/run", page.contains("\n.ci/run\n"));
    }
}
