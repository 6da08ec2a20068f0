import java.io.IOException;
import java.lang.reflect.Method;
import java.lang.reflect.Modifier;
import java.nio.file.DirectoryStream;
import java.nio.file.Files;
import java.nio.file.Path;
import java.util.ArrayList;
import java.util.List;
import java.util.Map;
import java.util.Set;
import java.util.TreeMap;
import java.util.TreeSet;
import java.util.regex.Matcher;
import java.util.regex.Pattern;

/** What README.md says is so: its code answers what stands behind it, its tables and its list of tests are whole. */
public final class ReadmeTest {
    private static final Due due = new Due();
    private static final Map<String, Long> CONSTANTS = Map.of("NONE", -1L, "BAD", -2L, "STATE", -3L, "FULL", -4L,
            "NO", Scenes.NO);
    private static final Pattern LINE = Pattern.compile("(?:int (\\w+) = )?x\\.(\\w+)\\(([^)]*)\\); +// ([-\\w]+).*");
    // Refusals of calls whose ordinary answers may be below 0 as well.
    private static final Map<String, String> WILD = Map.of("number", "-100000", "edge", "-100000", "worth", "NO", "end", "NO",
            "corner", "NO", "meet", "NO", "root", "NO", "row", "NO", "act", "none");
    private static final int[] NUMBERS = {Scenes.DEEP, -1, 0, 1, 2, 3, 5, 6, 8, 12, 41, Scenes.HUGE};
    private static final Twins.Recipe[] RECIPES = {Scenes::rich, Scenes::full, Scenes::twelve, Scenes::far, Scenes::emptied,
        Scenes::crowd};

    private static CornerCurves x;

    public static void main(String[] args) throws IOException, ReflectiveOperationException {
        Path root = Path.of(System.getProperty("project.root", "."));
        List<String> lines = Files.readAllLines(root.resolve("README.md"));
        code(lines);
        calls(lines);
        refusals(lines);
        tests(root, String.join("\n", lines));
        due.close();
    }

    private static TreeMap<String, Method> face() {
        TreeMap<String, Method> all = new TreeMap<>();
        for (Method m : CornerCurves.class.getDeclaredMethods()) {
            if (Modifier.isPublic(m.getModifiers())) {
                all.put(m.getName(), m);
            }
        }
        return all;
    }

    private static long ask(Method m, long[] given) throws ReflectiveOperationException {
        Object[] boxed = new Object[given.length];
        for (int k = 0; k < given.length; k++) {
            if (m.getParameterTypes()[k] == long.class) {
                boxed[k] = given[k];
            } else {
                boxed[k] = (int) given[k];
            }
        }
        return ((Number) m.invoke(x, boxed)).longValue();
    }

    /** Every line of Java code in the page, run as it stands there. */
    private static void code(List<String> lines) throws ReflectiveOperationException {
        TreeMap<String, Method> face = face();
        TreeMap<String, Long> names = new TreeMap<>();
        Set<String> shown = new TreeSet<>();
        boolean inside = false;
        for (String line : lines) {
            if (line.startsWith("```")) {
                inside = line.equals("```java");
            } else if (inside && line.equals("CornerCurves x = new CornerCurves();")) {
                x = new CornerCurves();
                names.clear();
            } else if (inside) {
                due.about("README.md, " + line);
                shown.add(run(line, face, names));
            }
        }
        due.about("README.md");
        due.is("many calls are shown", shown.size() >= 20 ? 1 : 0, 1);
    }

    /** Runs a line of code; which call it is. */
    private static String run(String line, TreeMap<String, Method> face, TreeMap<String, Long> names)
            throws ReflectiveOperationException {
        Matcher told = LINE.matcher(line);
        if (!told.matches() || !face.containsKey(told.group(2))) {
            due.fail("no call of the class with an answer behind it");
            return "";
        }
        String[] words = told.group(3).isEmpty() ? new String[0] : told.group(3).split(", ");
        long[] given = new long[words.length];
        for (int k = 0; k < words.length; k++) {
            given[k] = names.containsKey(words[k]) ? names.get(words[k]) : Long.parseLong(words[k]);
        }
        long got = ask(face.get(told.group(2)), given);
        due.is("the call", got, numberOf(told.group(4)));
        if (told.group(1) != null) {
            names.put(told.group(1), got);
        }
        return told.group(2);
    }

    private static long numberOf(String word) {
        return CONSTANTS.containsKey(word) ? CONSTANTS.get(word) : Long.parseLong(word);
    }

    /** The table of calls has each call of the face with its arguments, and all refusals that it answers. */
    private static void calls(List<String> lines) throws ReflectiveOperationException {
        TreeMap<String, Method> face = face();
        Pattern row = Pattern.compile("\\| `(\\w+)\\(([^)]*)\\)` \\| .* \\| ([^|]+) \\|");
        Set<String> seen = new TreeSet<>();
        for (String line : lines) {
            Matcher told = row.matcher(line);
            if (told.matches()) {
                String name = told.group(1);
                due.about("README.md, " + name);
                due.is("is a call of the class, once", face.containsKey(name) && seen.add(name) ? 1 : 0, 1);
                int words = told.group(2).isEmpty() ? 0 : told.group(2).split(", ").length;
                due.is("arguments", words, face.get(name).getParameterCount());
                Set<String> want = new TreeSet<>(List.of(told.group(3).split(", ")));
                want.remove("none");
                Set<String> got = refusalsOf(face.get(name));
                if (!got.equals(want)) {
                    due.fail("it says " + want + ", but answers " + got);
                }
            }
        }
        due.about("README.md");
        due.is("calls in the table", seen.size(), face.size());
    }

    /** All refusals that a call answers to all sorts of numbers. */
    private static Set<String> refusalsOf(Method m) throws ReflectiveOperationException {
        Set<String> found = new TreeSet<>();
        for (Twins.Recipe recipe : RECIPES) {
            x = recipe.make();
            int left = 300;
            for (long[] given : choices(m.getParameterCount())) {
                if (left == 0) {
                    x = recipe.make();
                    left = 300;
                }
                left--;
                String refusal = refusalIn(m.getName(), ask(m, given));
                if (!refusal.isEmpty()) {
                    found.add(refusal);
                }
            }
        }
        return found;
    }

    private static String refusalIn(String call, long answer) {
        if (answer >= -1) {
            return "";
        }
        for (String name : List.of("BAD", "STATE", "FULL", "NO")) {
            if (answer == CONSTANTS.get(name)) {
                return isOrdinary(call, name) ? "" : name;
            }
        }
        String name = String.valueOf(answer);
        return isOrdinary(call, name) ? "" : name;
    }

    private static boolean isOrdinary(String call, String name) {
        return WILD.containsKey(call) && !WILD.get(call).equals(name);
    }

    /** Arguments: all combinations of a few numbers, or a part of them where they are many. */
    private static List<long[]> choices(int n) {
        List<long[]> all = new ArrayList<>();
        int many = 1;
        for (int k = 0; k < n; k++) {
            many *= NUMBERS.length;
        }
        int step = many > 20000 ? 17 : 1;
        for (int at = 0; at < many; at += step) {
            long[] given = new long[n];
            int rest = at;
            for (int k = 0; k < n; k++) {
                given[k] = NUMBERS[rest % NUMBERS.length];
                rest /= NUMBERS.length;
            }
            all.add(given);
        }
        return all;
    }

    /** The table of refusals has the document's numbers. */
    private static void refusals(List<String> lines) {
        Pattern row = Pattern.compile("\\| (?:`(\\w+)`)? ?\\| (-\\d+) \\| .+ \\|");
        Set<String> numbers = new TreeSet<>();
        for (String line : lines) {
            Matcher told = row.matcher(line);
            if (told.matches()) {
                numbers.add(told.group(2));
                if (told.group(1) != null) {
                    due.is(told.group(1), Long.parseLong(told.group(2)), CONSTANTS.getOrDefault(told.group(1), 0L));
                }
            }
        }
        due.about("README.md, refusals");
        Set<String> want = new TreeSet<>(List.of("-2", "-3", "-4", "-11", "-12", "-13", "-14", "-100000", "" + Scenes.NO));
        if (!numbers.equals(want)) {
            due.fail("the numbers are " + numbers);
        }
    }

    /** Every test of the project is in the page's list, every file that the page names is there. */
    private static void tests(Path root, String page) throws IOException {
        due.about("README.md, tests");
        Set<String> named = new TreeSet<>();
        Matcher names = Pattern.compile("`(\\w+Test)`").matcher(page);
        while (names.find()) {
            named.add(names.group(1));
        }
        Set<String> there = new TreeSet<>();
        try (DirectoryStream<Path> files = Files.newDirectoryStream(root.resolve("src/test/java"), "*Test.java")) {
            for (Path file : files) {
                there.add(file.getFileName().toString().replace(".java", ""));
            }
        }
        if (!named.equals(there)) {
            due.fail("it names " + named + ", there are " + there);
        }
        for (String helper : List.of("Cases", "Due", "Scenes", "Twins", "PlainModel", "Remade")) {
            due.is(helper + " is named", page.contains("`" + helper + "`") ? 1 : 0, 1);
            due.is(helper + " is there", Files.exists(root.resolve("src/test/java/" + helper + ".java")) ? 1 : 0, 1);
        }
        due.is(".ci/run can be run", Files.isExecutable(root.resolve(".ci/run")) ? 1 : 0, 1);
        due.is("the class is there", Files.exists(root.resolve("src/main/java/CornerCurves.java")) ? 1 : 0, 1);
    }
}
