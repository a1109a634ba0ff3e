import java.io.IOException;
import java.lang.reflect.Method;
import java.lang.reflect.Modifier;
import java.nio.file.Files;
import java.nio.file.Path;
import java.util.ArrayList;
import java.util.List;
import java.util.Set;
import java.util.TreeSet;
import java.util.regex.Matcher;
import java.util.regex.Pattern;

// README.md shows calls with their answers, names every call, and says which number each constant is.
public final class ReadmeTest extends Checks {
    private static final Pattern SHOWN = Pattern.compile("(?m)^x\\.(\\w+)\\(([^)]*)\\);\\s*// (-?\\d+)\\b");
    private static final Pattern LISTED = Pattern.compile("(?m)^\\| `(\\w+)\\(([^)]*)\\)` \\|");
    private static final Pattern CONSTANT = Pattern.compile("(?m)^- `([A-Z]+)` \\((-\\d+)\\):");

    private static Method named(String name, int arguments) throws NoSuchMethodException {
        for (Method method : RootIsolator.class.getDeclaredMethods()) {
            if (method.getName().equals(name) && method.getParameterCount() == arguments) {
                return method;
            }
        }
        throw new NoSuchMethodException(name);
    }

    private static String[] split(String arguments) {
        return arguments.isEmpty() ? new String[0] : arguments.split(", ");
    }

    private static void example(String text) throws ReflectiveOperationException {
        says("the example");
        RootIsolator x = new RootIsolator();
        Matcher shown = SHOWN.matcher(text);
        while (shown.find()) {
            String[] arguments = split(shown.group(2));
            Method method = named(shown.group(1), arguments.length);
            List<Object> values = new ArrayList<>();
            for (int k = 0; k < arguments.length; k++) {
                boolean isLong = method.getParameterTypes()[k] == long.class;
                values.add(isLong ? (Object) Long.valueOf(arguments[k]) : (Object) Integer.valueOf(arguments[k]));
            }
            Number got = (Number) method.invoke(x, values.toArray());
            due(shown.group(1) + "(" + shown.group(2) + ")", got.longValue(), Long.parseLong(shown.group(3)));
        }
        due("calls without an answer", text.split("(?m)^x\\.").length, text.split(SHOWN.pattern()).length);
    }

    private static void table(String text) throws ReflectiveOperationException {
        says("the table");
        Set<String> face = new TreeSet<>();
        for (Method method : RootIsolator.class.getDeclaredMethods()) {
            if (Modifier.isPublic(method.getModifiers())) {
                face.add(method.getName());
            }
        }
        Matcher listed = LISTED.matcher(text);
        while (listed.find()) {
            named(listed.group(1), split(listed.group(2)).length);
            due(listed.group(1) + " is one of the face's", face.remove(listed.group(1)) ? 1 : 0, 1);
        }
        due("calls that are not listed: " + face, face.size(), 0);
    }

    private static void constants(String text) throws ReflectiveOperationException {
        says("the constants");
        Matcher constant = CONSTANT.matcher(text);
        int many = 0;
        while (constant.find()) {
            int value = RootIsolator.class.getField(constant.group(1)).getInt(null);
            due(constant.group(1), value, Integer.parseInt(constant.group(2)));
            many++;
        }
        due("how many", many, RootIsolator.class.getFields().length);
    }

    public static void main(String[] args) throws IOException, ReflectiveOperationException {
        String text = Files.readString(Path.of("README.md"));
        example(text);
        table(text);
        constants(text);
        end();
    }
}
