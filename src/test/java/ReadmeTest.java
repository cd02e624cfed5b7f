import java.io.IOException;
import java.lang.reflect.InvocationTargetException;
import java.lang.reflect.Method;
import java.nio.file.Files;
import java.nio.file.Path;
import java.util.Arrays;
import java.util.regex.Matcher;
import java.util.regex.Pattern;

/** Asks each call that README.md tells with its answer, and sees that README.md tells each test there is. */
public final class ReadmeTest {
    private static final Pattern TOLD = Pattern.compile("    x\\.(\\w+)\\(([^)]*)\\); +// ([\\w-]+).*");
    private static final Due due = new Due();

    public static void main(String[] args) throws IOException, ReflectiveOperationException {
        String readme = Files.readString(Path.of("README.md"));
        int asked = 0;
        MeetingMachines x = new MeetingMachines();
        for (String line : readme.split("\n")) {
            Matcher told = TOLD.matcher(line);
            if (told.matches()) {
                String got = answer(x, told.group(1), told.group(2));
                due.yes(line.trim() + " answered " + got + ", as told", got.equals(told.group(3)));
                asked++;
            } else {
                due.no(line.trim() + " tells no answer", line.startsWith("    x."));
            }
        }
        due.yes("README.md tells some calls", asked > 20);
        toldTests(readme);
        due.end();
    }

    private static String answer(MeetingMachines x, String name, String told) throws ReflectiveOperationException {
        int[] numbers = told.isEmpty() ? new int[0]
                : Arrays.stream(told.split(", ")).mapToInt(Integer::parseInt).toArray();
        Class<?>[] types = new Class<?>[numbers.length];
        Arrays.fill(types, int.class);
        Method call = MeetingMachines.class.getMethod(name, types);
        try {
            return String.valueOf(call.invoke(x, Arrays.stream(numbers).boxed().toArray()));
        } catch (InvocationTargetException e) {
            return e.getCause().getClass().getSimpleName();
        }
    }

    private static void toldTests(String readme) throws IOException {
        try (var files = Files.list(Path.of("src/test/java"))) {
            for (Path file : files.sorted().toList()) {
                String name = file.getFileName().toString().replace(".java", "");
                due.yes("README.md tells " + name, !name.endsWith("Test") || readme.contains("| `" + name + "` |"));
            }
        }
    }
}
