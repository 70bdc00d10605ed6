import java.io.IOException;
import java.lang.reflect.Method;
import java.lang.reflect.Modifier;
import java.nio.file.Files;
import java.nio.file.Path;
import java.util.HashSet;
import java.util.List;
import java.util.Set;
import java.util.regex.Matcher;
import java.util.regex.Pattern;

/** README.md's calls answer what it says, and it tells of every call. Run where README.md is. */
public final class ReadmeTest {
    private static final Pattern MADE =
            Pattern.compile("GappedStore store = new GappedStore\\((\\d+)\\);");
    private static final Pattern SHOWN =
            Pattern.compile("store\\.(\\w+)\\(([^)]*)\\);\\s*// (-?\\w+).*");
    private static final Pattern TOLD = Pattern.compile("\\| `(\\w+)\\(([^)]*)\\)` \\|.*");

    private static GappedStore store;
    private static final Set<String> shown = new HashSet<>();
    private static final Set<String> told = new HashSet<>();

    private static String nameOf(Method method) {
        return method.getName() + " of " + method.getParameterCount();
    }

    private static String[] parts(String arguments) {
        return arguments.isEmpty() ? new String[0] : arguments.split(", ");
    }

    private static Method methodOf(String name, int parameters) {
        for (Method method : GappedStore.class.getDeclaredMethods()) {
            boolean isPublic = Modifier.isPublic(method.getModifiers());
            if (isPublic && nameOf(method).equals(name + " of " + parameters)) {
                return method;
            }
        }
        throw new IllegalStateException("there is no call " + name + " of " + parameters);
    }

    private static Object valueOf(String text, Class<?> type) {
        if (type == boolean.class) {
            return Boolean.valueOf(text);
        }
        if (type == int.class) {
            return text.equals("BAD") ? GappedStore.BAD : Integer.parseInt(text);
        }
        boolean isNone = text.equals("NONE") || text.equals("GappedStore.NONE");
        return isNone ? GappedStore.NONE : Long.parseLong(text);
    }

    private static void checkShown(Matcher line) throws ReflectiveOperationException {
        String[] texts = parts(line.group(2));
        Method method = methodOf(line.group(1), texts.length);
        shown.add(nameOf(method));
        Object[] arguments = new Object[texts.length];
        for (int i = 0; i < texts.length; i++) {
            arguments[i] = valueOf(texts[i], method.getParameterTypes()[i]);
        }
        String due = valueOf(line.group(3), method.getReturnType()).toString();
        String got = method.invoke(store, arguments).toString();
        Due.same(line.group(1) + "(" + line.group(2) + ")", got, due);
    }

    private static void read(String line) throws ReflectiveOperationException {
        Matcher made = MADE.matcher(line);
        Matcher call = SHOWN.matcher(line);
        Matcher row = TOLD.matcher(line);
        if (made.matches()) {
            store = new GappedStore(Integer.parseInt(made.group(1)));
        } else if (call.matches()) {
            checkShown(call);
        } else if (row.matches()) {
            told.add(nameOf(methodOf(row.group(1), parts(row.group(2)).length)));
        } else if (line.startsWith("store.")) {
            Due.tell("no answer stands beside " + line);
        }
    }

    public static void main(String[] args) throws IOException, ReflectiveOperationException {
        Due.about("README.md");
        List<String> lines = Files.readAllLines(Path.of("README.md"));
        for (String line : lines) {
            read(line);
        }
        for (Method method : GappedStore.class.getDeclaredMethods()) {
            if (Modifier.isPublic(method.getModifiers())) {
                Due.same(nameOf(method) + " has an example", shown.contains(nameOf(method)), true);
                Due.same(nameOf(method) + " is told", told.contains(nameOf(method)), true);
            }
        }
        Due.end("README.md tells every call as it is");
    }
}
