import java.lang.reflect.Constructor;
import java.lang.reflect.Field;
import java.lang.reflect.Method;
import java.lang.reflect.Modifier;
import java.nio.file.Files;
import java.nio.file.Path;
import java.util.Arrays;
import java.util.Set;
import java.util.TreeSet;
import java.util.regex.Matcher;
import java.util.regex.Pattern;
import java.util.stream.Collectors;

/** The public face of the document, and the rules of LANGUAGE.md that can be seen without judging. */
public final class FaceTest {
    private static final String[] METHODS = {
        "int add(int, int)", "int depot(int, int)", "int road(int, int)", "int anew()", "int draw(int, int)",
        "int of(int, int)", "int far(int, int)", "int way(int, int, int)", "int longest(int)", "int middle(int)",
        "int nearest(int, int)", "int turn(int, int, int)", "int within(int, int)", "int sum(int)", "int left(int)",
        "int more(int)", "int serves(int)", "int pair(int)", "int type(int)", "int clear()", "int says()",
        "int answer(int)", "int told(int)", "long digest()",
    };
    private static final String[] NO_WORDS = {
        "throw", "throws", "try", "catch", "finally", "synchronized", "assert", "import", "package", "Exact", "hashCode",
        "toString", "System", "Thread", "Random", "->", "::",
    };
    private static final int MOST_LINES_OF_A_METHOD = 60;

    public static void main(String[] args) throws Exception {
        Check.due("NONE", RoadDepots.NONE, -1);
        Check.due("BAD", RoadDepots.BAD, -2);
        Check.due("NO", RoadDepots.NO, -3);
        Check.due("FULL", RoadDepots.FULL, -4);
        face();
        names();
        words();
        Check.end();
    }

    private static void face() {
        Class<?> c = RoadDepots.class;
        Check.due("the class is public and final", c.getModifiers(), Modifier.PUBLIC | Modifier.FINAL);
        Set<String> methods = new TreeSet<>();
        for (Method m : c.getDeclaredMethods()) {
            if (!Modifier.isPrivate(m.getModifiers())) {
                Check.due(m.getName() + " is public, not static", m.getModifiers(), Modifier.PUBLIC);
                String types = Arrays.stream(m.getParameterTypes()).map(Class::getName).collect(Collectors.joining(", "));
                methods.add(m.getReturnType().getName() + " " + m.getName() + "(" + types + ")");
            }
        }
        Check.dueText("the methods", methods.toString(), new TreeSet<>(Arrays.asList(METHODS)).toString());
        Set<String> fields = new TreeSet<>();
        for (Field f : c.getDeclaredFields()) {
            if (!Modifier.isPrivate(f.getModifiers())) {
                fields.add(f.getName());
            }
        }
        Check.dueText("the constants", fields.toString(), "[BAD, FULL, NO, NONE]");
        Constructor<?>[] constructors = c.getDeclaredConstructors();
        Check.due("constructors", constructors.length, 1);
        Check.due("its parameters", constructors[0].getParameterCount(), 0);
    }

    private static void names() {
        Set<String> open = Arrays.stream(METHODS).map(m -> m.replaceAll("^\\w+ |\\(.*", "")).collect(Collectors.toSet());
        Class<?>[] inside = RoadDepots.class.getDeclaredClasses();
        Check.due("at most twelve classes", inside.length <= 11 ? 1 : 0, 1);
        for (Method m : RoadDepots.class.getDeclaredMethods()) {
            boolean bears = Modifier.isPrivate(m.getModifiers()) && open.contains(m.getName());
            Check.due(m.getName() + " bears the name of a public one", bears ? 1 : 0, 0);
        }
        for (Class<?> c : inside) {
            Check.due(c.getName() + " is static", Modifier.isStatic(c.getModifiers()) ? 1 : 0, 1);
            Check.due(c.getName() + " is not public", c.getModifiers() & (Modifier.PUBLIC | Modifier.PROTECTED), 0);
            for (Method m : c.getDeclaredMethods()) {
                Check.due(m + " bears the name of a public one", open.contains(m.getName()) ? 1 : 0, 0);
            }
            fieldsAndParameters(c);
        }
        fieldsAndParameters(RoadDepots.class);
    }

    private static void fieldsAndParameters(Class<?> c) {
        int own = 0;
        for (Field f : c.getDeclaredFields()) {
            boolean isStatic = Modifier.isStatic(f.getModifiers());
            own += isStatic ? 0 : 1;
            Check.due(f + " is static and not final", isStatic && !Modifier.isFinal(f.getModifiers()) ? 1 : 0, 0);
        }
        Check.due(c.getName() + " has at most twenty fields", own <= 20 ? 1 : 0, 1);
        for (Method m : c.getDeclaredMethods()) {
            Check.due(m + " takes at most seven", m.getParameterCount() <= 7 ? 1 : 0, 1);
        }
    }

    private static void words() throws Exception {
        String source = Files.readString(Path.of("src/main/java/RoadDepots.java"));
        String code = source.replaceAll("(?s)/\\*.*?\\*/", "").replaceAll("//[^\n]*", "");
        for (String word : NO_WORDS) {
            String pattern = word.matches("\\w+") ? "\\b" + word + "\\b" : Pattern.quote(word);
            Check.due("'" + word + "' stands in the program", Pattern.compile(pattern).matcher(code).find() ? 1 : 0, 0);
        }
        boolean ascii = source.chars().allMatch(c -> c == '\n' || c >= 32 && c < 127);
        Check.due("only plain signs", ascii ? 1 : 0, 1);
        Matcher method = Pattern.compile("(?m)^( {4}| {8})\\w[^;={}]*\\([^;={}]*\\) \\{\n(.*\n)*?\\1\\}$").matcher(source);
        int found = 0;
        while (method.find()) {
            found++;
            long lines = method.group().lines().count();
            String name = method.group().lines().findFirst().get().trim();
            Check.due("a short method: " + name, lines <= MOST_LINES_OF_A_METHOD ? 1 : 0, 1);
        }
        Check.due("methods were found", found > METHODS.length ? 1 : 0, 1);
    }
}
