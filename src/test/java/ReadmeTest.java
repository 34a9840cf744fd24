import java.io.IOException;
import java.lang.reflect.Method;
import java.lang.reflect.Modifier;
import java.nio.file.Files;
import java.nio.file.Path;
import java.util.Arrays;
import java.util.Set;
import java.util.TreeSet;
import java.util.regex.Matcher;
import java.util.regex.Pattern;

/** The calls that README.md shows answer what stands behind them there, and every call is shown. */
public final class ReadmeTest {
    private static final Pattern CALL =
            Pattern.compile("^workshop\\.(\\w+)\\(([-\\d, ]*)\\); +// (-?\\d+|true|false)(:.*)?$");
    private static final Path README = Path.of("README.md");

    public static void main(String[] args) throws IOException, ReflectiveOperationException {
        PinBarrels workshop = new PinBarrels();
        Set<String> shown = new TreeSet<>();
        int wrong = 0;
        for (String line : Files.readAllLines(README)) {
            if (line.startsWith("workshop.")) {
                wrong += isAsDue(workshop, line, shown) ? 0 : 1;
            }
        }
        if (!shown.equals(publicMethods())) {
            wrong++;
            System.out.println("README.md shows " + shown + " alone");
        }
        System.out.println(shown.size() + " methods shown, " + wrong + " lines not as due");
        if (wrong != 0) {
            System.exit(1);
        }
    }

    private static Set<String> publicMethods() {
        Set<String> names = new TreeSet<>();
        for (Method method : PinBarrels.class.getDeclaredMethods()) {
            if (Modifier.isPublic(method.getModifiers())) {
                names.add(method.getName());
            }
        }
        return names;
    }

    private static boolean isAsDue(PinBarrels workshop, String line, Set<String> shown)
            throws ReflectiveOperationException {
        Matcher call = CALL.matcher(line);
        if (!call.matches()) {
            System.out.println("no call with an answer: " + line);
            return false;
        }
        shown.add(call.group(1));
        String answer = answerOf(workshop, call.group(1), call.group(2));
        if (!answer.equals(call.group(3))) {
            System.out.println(line + " -- answered " + answer);
            return false;
        }
        return true;
    }

    private static String answerOf(PinBarrels workshop, String name, String numbers)
            throws ReflectiveOperationException {
        Object[] arguments = numbers.isBlank() ? new Object[0]
                : Arrays.stream(numbers.split(",")).map(String::trim).map(Integer::valueOf).toArray();
        Class<?>[] types = new Class<?>[arguments.length];
        Arrays.fill(types, int.class);
        return String.valueOf(PinBarrels.class.getMethod(name, types).invoke(workshop, arguments));
    }
}
