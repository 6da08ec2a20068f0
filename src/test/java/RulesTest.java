import java.io.IOException;
import java.lang.reflect.Constructor;
import java.lang.reflect.Field;
import java.lang.reflect.Method;
import java.lang.reflect.Modifier;
import java.nio.file.Files;
import java.nio.file.Path;
import java.util.ArrayList;
import java.util.List;
import java.util.Set;
import java.util.TreeSet;
import java.util.regex.Matcher;
import java.util.regex.Pattern;

/** The face of the class, and the rules of LANGUAGE.md as far as the compiled class and the text show them. */
public final class RulesTest {
    private static final Due due = new Due();
    private static final String[] FACE = {"int form()", "int term(int,int,int,int)", "int take(int,int,int)",
        "int sum(int,int)", "int power(int,int)", "int move(int,int,int)", "int hide(int,int,int,int)", "int drop()",
        "int told(int,int)", "int number(int,int,int)", "long worth(int,int,int,int,int)",
        "int leastAt(int,int,int,int)", "int idle(int,int,int)", "int same(int,int)", "int edge(int,int,int)",
        "long end(int,int,int,int)", "long corner(int,int,int)", "int amount(int,int)", "int meets(int,int)",
        "long meet(int,int,int,int)", "long root(int,int,int)", "int write(int)", "long row(int)",
        "int forge(int,long)", "int check(int)", "int act(int,int,int)", "int trace(int)", "int count(int)",
        "int sheet(int,int,int)", "int cell(int,int,int)", "int copy(int,int,int,int,int)", "int taken(int,int)"};
    private static final Set<String> CONSTANTS = Set.of("NONE", "BAD", "STATE", "FULL", "NO");

    public static void main(String[] args) throws IOException {
        due.about("the rules");
        face();
        fieldsAndClasses();
        text(Files.readString(Path.of(System.getProperty("project.root", "."), "src/main/java/CornerCurves.java")));
        due.close();
    }

    private static void face() {
        Class<?> c = CornerCurves.class;
        due.is("public and final", c.getModifiers(), Modifier.PUBLIC | Modifier.FINAL);
        Set<String> open = new TreeSet<>();
        Set<String> names = new TreeSet<>();
        List<Method> hidden = new ArrayList<>();
        for (Method m : c.getDeclaredMethods()) {
            if (m.isSynthetic()) {
                continue;
            }
            if (Modifier.isPrivate(m.getModifiers())) {
                hidden.add(m);
            } else {
                List<String> types = new ArrayList<>();
                for (Class<?> t : m.getParameterTypes()) {
                    types.add(t.getName());
                }
                open.add(m.getReturnType().getName() + " " + m.getName() + "(" + String.join(",", types) + ")");
                names.add(m.getName());
                due.is(m.getName() + " is public and no more", m.getModifiers(), Modifier.PUBLIC);
            }
        }
        for (Method m : hidden) {
            due.is(m.getName() + " has a public one's name", names.contains(m.getName()) ? 1 : 0, 0);
        }
        Set<String> want = new TreeSet<>(List.of(FACE));
        if (!open.equals(want)) {
            due.fail("the face is " + open);
        }
        Constructor<?>[] made = c.getDeclaredConstructors();
        due.is("constructors", made.length, 1);
        due.is("it is public", made[0].getModifiers(), Modifier.PUBLIC);
        due.is("and asks for nothing", made[0].getParameterCount(), 0);
    }

    private static void fieldsAndClasses() {
        Class<?>[] inside = CornerCurves.class.getDeclaredClasses();
        due.is("classes", inside.length + 1 <= 12 ? 1 : 0, 1);
        fieldsOf(CornerCurves.class);
        for (Class<?> c : inside) {
            due.is(c.getName() + " is static", Modifier.isStatic(c.getModifiers()) ? 1 : 0, 1);
            due.is(c.getName() + " is not public", c.getModifiers() & (Modifier.PUBLIC | Modifier.PROTECTED), 0);
            fieldsOf(c);
            for (Method m : c.getDeclaredMethods()) {
                due.is(m.getName() + " takes at most seven", m.getParameterCount() <= 7 ? 1 : 0, 1);
            }
        }
    }

    private static void fieldsOf(Class<?> c) {
        int own = 0;
        for (Field f : c.getDeclaredFields()) {
            if (f.isSynthetic()) {
                continue;
            }
            boolean isStatic = Modifier.isStatic(f.getModifiers());
            own += isStatic ? 0 : 1;
            due.is(f.getName() + " is final where static", isStatic && !Modifier.isFinal(f.getModifiers()) ? 1 : 0, 0);
            if (c == CornerCurves.class) {
                boolean isConstant = CONSTANTS.contains(f.getName());
                due.is(f.getName() + " is public", Modifier.isPublic(f.getModifiers()) ? 1 : 0, isConstant ? 1 : 0);
                due.is(f.getName() + " is private", Modifier.isPrivate(f.getModifiers()) ? 1 : 0, isConstant ? 0 : 1);
            }
        }
        due.is("fields of " + c.getName(), own <= 20 ? 1 : 0, 1);
    }

    private static void text(String source) {
        String code = source.replaceAll("(?s)/\\*.*?\\*/", " ").replaceAll("//[^\n]*", " ");
        String[] words = {"throw", "throws", "try", "catch", "finally", "synchronized", "assert", "package", "interface",
            "var", "yield", "double", "float", "volatile", "transient", "native", "equals", "hashCode", "toString",
            "getClass", "Random", "System\\.(?!arraycopy)\\w+", "Thread", "\\w+Exact", "MAX_VALUE", "MIN_VALUE"};
        for (String word : words) {
            due.is("the word " + word, Pattern.compile("\\b" + word + "\\b").matcher(code).find() ? 1 : 0, 0);
        }
        for (String sign : new String[] {"->", "::", "@", "\""}) {
            due.is("the sign " + sign, code.contains(sign) ? 1 : 0, 0);
        }
        Matcher imports = Pattern.compile("\\bimport\\s+([^;]+);").matcher(code);
        while (imports.find()) {
            due.is(imports.group(1), imports.group(1).equals("java.util.Arrays") ? 1 : 0, 1);
        }
        due.is("signs of 1 to 126 alone", source.chars().allMatch(ch -> ch > 0 && ch < 127) ? 1 : 0, 1);
        methodLengths(source);
    }

    /** Methods are told by their indents: 4 in the class, 8 in a class inside it. */
    private static void methodLengths(String source) {
        String[] lines = source.split("\n");
        for (int k = 0; k < lines.length; k++) {
            String indent = lines[k].replaceAll("\\S.*", "");
            if (lines[k].endsWith(") {") && (indent.length() == 4 || indent.length() == 8)
                    && lines[k].matches("\\s*(public |private |static |int |long |boolean |void |[A-Z]\\w* ?)+\\w*\\(.*")) {
                int end = k;
                while (end < lines.length && !lines[end].equals(indent + "}")) {
                    end++;
                }
                due.is("lines of " + lines[k].trim(), end - k < 60 ? 1 : 0, 1);
            }
        }
    }
}
