import java.io.IOException;
import java.lang.reflect.Method;
import java.lang.reflect.Modifier;
import java.nio.file.Files;
import java.nio.file.Path;
import java.util.regex.Matcher;
import java.util.regex.Pattern;

/** The calls in README.md answer what stands beside them, one after the other on one object, and none is left out. */
public final class ReadmeTest {
    private static final Pattern SHOWN = Pattern.compile("^r\\.(\\w+)\\(([^)]*)\\);\\s+// (-?\\d+)\\b");
    private static int wrong = 0;

    private static void must(boolean held, String what) {
        if (!held) {
            wrong++;
            System.out.println(what);
        }
    }

    private static int numberOf(String argument) {
        return argument.startsWith("'") ? argument.charAt(1) : Integer.parseInt(argument);
    }

    private static int answer(ReelBack r, String name, String arguments) throws ReflectiveOperationException {
        String[] all = arguments.isBlank() ? new String[0] : arguments.split(", ");
        Class<?>[] types = new Class<?>[all.length];
        Object[] values = new Object[all.length];
        for (int i = 0; i < all.length; i++) {
            types[i] = int.class;
            values[i] = numberOf(all[i]);
        }
        return (Integer) ReelBack.class.getMethod(name, types).invoke(r, values);
    }

    private static int showCalls(String readme) throws ReflectiveOperationException {
        ReelBack r = new ReelBack();
        int shown = 0;
        for (String line : readme.split("\n")) {
            Matcher call = SHOWN.matcher(line);
            must(!line.startsWith("r.") || call.find(), "no answer stands beside: " + line);
            if (line.startsWith("r.") && call.reset().find()) {
                int got = answer(r, call.group(1), call.group(2));
                must(got == Integer.parseInt(call.group(3)), line + " answered " + got);
                shown++;
            }
        }
        return shown;
    }

    private static void namesAllCalls(String readme) {
        for (Method method : ReelBack.class.getDeclaredMethods()) {
            if (Modifier.isPublic(method.getModifiers())) {
                must(readme.contains("`" + method.getName() + "`"), "README.md does not name " + method.getName());
            }
        }
    }

    public static void main(String[] args) throws IOException, ReflectiveOperationException {
        String readme = Files.readString(Path.of("README.md"));
        int shown = showCalls(readme);
        must(shown > 30, "the calls of README.md are not found");
        namesAllCalls(readme);
        System.out.println(shown + " calls of README.md, " + wrong + " not as shown");
        if (wrong != 0) {
            System.exit(1);
        }
    }
}
