import java.io.IOException;
import java.lang.reflect.InvocationTargetException;
import java.lang.reflect.Method;
import java.lang.reflect.Modifier;
import java.nio.file.Files;
import java.nio.file.Path;
import java.util.ArrayList;
import java.util.List;
import java.util.Map;
import java.util.Set;
import java.util.TreeMap;
import java.util.TreeSet;
import java.util.regex.Matcher;
import java.util.regex.Pattern;
import java.util.stream.Stream;

/** README.md says what is so: its calls answer what stands behind them, and its tables leave nothing out. */
public final class ReadmeTest {
    private static final Pattern CALL = Pattern.compile("p\\.(\\w+)\\((.*)\\); *// ([^:]+)(: .+)?");
    private static final Pattern NAMES = Pattern.compile("`(\\w+)`");
    private static final String FRESH = "AllocationProfiler p = new AllocationProfiler();";
    private static final Check check = new Check();

    public static void main(String[] args) throws IOException, ReflectiveOperationException {
        List<String> readme = Files.readAllLines(Path.of("README.md"));
        examples(readme);
        check.same("operations", operationsOf(section(readme, "### Methods")).toString(), operations().toString());
        check.same("classes inside", namesIn(section(readme, "## How it is made")).toString(),
                classesInside().toString());
        check.same("tests", namesIn(section(readme, "## Tests")).toString(), tests().toString());
        check.finish();
    }

    private static void examples(List<String> readme) throws IllegalAccessException {
        Map<String, Method> face = face();
        Set<String> shown = new TreeSet<>();
        AllocationProfiler p = null;
        boolean inside = false;
        for (int i = 0; i < readme.size(); i++) {
            String line = readme.get(i);
            String where = "README.md:" + (i + 1) + " " + line;
            if (line.startsWith("```")) {
                inside = line.equals("```java");
                // Each block is for itself, so that a reader can take it alone.
                p = null;
            } else if (inside && line.equals(FRESH)) {
                p = new AllocationProfiler();
            } else if (inside && !line.isEmpty()) {
                Matcher call = CALL.matcher(line);
                boolean isCall = call.matches() && face.containsKey(call.group(1)) && p != null;
                check.same(where + " is a call", isCall ? 1 : 0, 1);
                if (isCall) {
                    shown.add(call.group(1));
                    Method method = face.get(call.group(1));
                    check.same(where, answer(p, method, call.group(2)), due(method, call.group(3)));
                }
            }
        }
        check.same("methods that are shown", shown.toString(), face.keySet().toString());
    }

    private static Map<String, Method> face() {
        Map<String, Method> face = new TreeMap<>();
        for (Method m : AllocationProfiler.class.getDeclaredMethods()) {
            if (Modifier.isPublic(m.getModifiers())) {
                face.put(m.getName(), m);
            }
        }
        return face;
    }

    private static String answer(AllocationProfiler p, Method method, String arguments)
            throws IllegalAccessException {
        try {
            return text(method, method.invoke(p, values(arguments)));
        } catch (InvocationTargetException e) {
            return "throws " + e.getCause().getClass().getSimpleName();
        }
    }

    private static Object[] values(String arguments) {
        List<Object> values = new ArrayList<>();
        for (String word : arguments.isEmpty() ? new String[0] : arguments.split(", ")) {
            if (word.equals("true") || word.equals("false")) {
                values.add(word.equals("true"));
            } else {
                values.add(Integer.valueOf(word));
            }
        }
        return values.toArray();
    }

    private static String text(Method method, Object answer) {
        return method.getReturnType() == void.class ? "done" : answer.toString();
    }

    /** What README.md says, with a number written as Java writes one of the method's type. */
    private static String due(Method method, String said) {
        if (said.equals("done") || said.startsWith("throws ")) {
            return said;
        }
        Class<?> type = method.getReturnType();
        return type == float.class ? Float.toString(Float.parseFloat(said))
                : type == double.class ? Double.toString(Double.parseDouble(said)) : said;
    }

    /** The lines from a heading to the next. */
    private static List<String> section(List<String> readme, String heading) {
        int first = readme.indexOf(heading) + 1;
        check.same("README.md has " + heading, first > 0 ? 1 : 0, 1);
        int end = first;
        while (end < readme.size() && !readme.get(end).startsWith("#")) {
            end++;
        }
        return readme.subList(first, end);
    }

    private static Map<String, Integer> operationsOf(List<String> lines) {
        Map<String, Integer> said = new TreeMap<>();
        for (String line : lines) {
            String[] cells = line.split(" *\\| *");
            for (int i = 1; i + 1 < cells.length && cells[i].matches("\\d+"); i += 2) {
                said.put(cells[i + 1].split(" ")[0], Integer.valueOf(cells[i]));
            }
        }
        return said;
    }

    private static Map<String, Integer> operations() throws ReflectiveOperationException {
        String[] names = {"PUSH", "LOAD", "STORE", "ADD", "SUB", "MUL", "DUP", "POP", "GOTO", "IFZERO", "IFNEG",
            "NEW", "ARRAY", "CALL", "RETURN", "THROW"};
        Map<String, Integer> all = new TreeMap<>();
        for (String name : names) {
            all.put(name, Check.class.getDeclaredField(name).getInt(null));
        }
        return all;
    }

    /** The names in the first column of the tables. */
    private static Set<String> namesIn(List<String> lines) {
        Set<String> names = new TreeSet<>();
        for (String line : lines) {
            if (line.startsWith("| `")) {
                Matcher name = NAMES.matcher(line.substring(0, line.indexOf('|', 1)));
                while (name.find()) {
                    names.add(name.group(1));
                }
            }
        }
        return names;
    }

    private static Set<String> classesInside() {
        Set<String> names = new TreeSet<>();
        for (Class<?> inside : AllocationProfiler.class.getDeclaredClasses()) {
            names.add(inside.getSimpleName());
        }
        return names;
    }

    private static Set<String> tests() throws IOException {
        Set<String> names = new TreeSet<>();
        try (Stream<Path> files = Files.list(Path.of("src/test/java"))) {
            files.map(file -> file.getFileName().toString()).filter(name -> name.endsWith("Test.java"))
                    .forEach(name -> names.add(name.substring(0, name.length() - ".java".length())));
        }
        return names;
    }
}
