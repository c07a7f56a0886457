import java.io.IOException;
import java.lang.reflect.Method;
import java.nio.file.Files;
import java.nio.file.Path;
import java.util.TreeSet;
import java.util.regex.Matcher;
import java.util.regex.Pattern;

/** README.md's example answers as README.md says, and README.md names every method of the face. */
public final class ReadmeTest {
    private static final Pattern ANSWERED_CALL = Pattern.compile("keeper\\.(\\w+)\\(([^)]*)\\);\\s*// (-?\\d+).*");
    private static final Check CHECK = new Check();

    public static void main(String[] args) throws IOException, ReflectiveOperationException {
        String readme = Files.readString(Path.of("README.md"));
        exampleHolds(readme);
        everyMethodIsNamed(readme);
        CHECK.done();
    }

    private static void exampleHolds(String readme) throws ReflectiveOperationException {
        CHECK.sentence("README: the example");
        KeeperRolls keeper = new KeeperRolls();
        int calls = 0;
        for (String line : readme.split("\n")) {
            if (line.startsWith("keeper.")) {
                Matcher call = ANSWERED_CALL.matcher(line);
                CHECK.due("a line with its answer: " + line, call.matches() ? 1 : 0, 1);
                if (call.matches()) {
                    int got = answer(keeper, call.group(1), call.group(2));
                    CHECK.due(line, got, Integer.parseInt(call.group(3)));
                    calls++;
                }
            }
        }
        CHECK.due("there is an example", calls > 0 ? 1 : 0, 1);
    }

    private static void everyMethodIsNamed(String readme) {
        CHECK.sentence("README: how an object is called");
        TreeSet<String> missing = new TreeSet<>();
        for (Method method : KeeperRolls.class.getMethods()) {
            if (method.getDeclaringClass() == KeeperRolls.class && !readme.contains("`" + method.getName() + "(")) {
                missing.add(method.getName());
            }
        }
        CHECK.due("methods that are not named " + missing, missing.size(), 0);
    }

    private static int answer(KeeperRolls keeper, String name, String arguments) throws ReflectiveOperationException {
        String[] words = arguments.isBlank() ? new String[0] : arguments.split(",");
        Class<?>[] types = new Class<?>[words.length];
        Object[] values = new Object[words.length];
        for (int i = 0; i < words.length; i++) {
            types[i] = int.class;
            values[i] = Integer.parseInt(words[i].trim());
        }
        return (Integer) KeeperRolls.class.getMethod(name, types).invoke(keeper, values);
    }
}
