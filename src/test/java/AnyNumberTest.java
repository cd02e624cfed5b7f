import java.lang.reflect.InvocationTargetException;
import java.lang.reflect.Method;
import java.lang.reflect.Modifier;
import java.util.Arrays;
import java.util.Comparator;
import java.util.NoSuchElementException;

/** Every call, with any numbers in any state, answers or throws what the face says, and nothing else. */
public final class AnyNumberTest {
    private static final int[] NUMBERS = {Integer.MIN_VALUE, Integer.MIN_VALUE + 1, -301, -6, -5, -4, -3, -2, -1, 0, 1, 2,
        3, 4, 5, 6, 7, 8, 11, 12, 13, 20, 29, 30, 31, 41, 47, 48, 49, 60, 61, 95, 96, 97, 99, 100, 101, 190, 191, 192,
        200, 201, 299, 300, 301, 700, 701, 1 << 30, Integer.MAX_VALUE - 1, Integer.MAX_VALUE};
    private static final int OBJECTS = 60;
    private static final int CALLS = 450;
    private static final Due due = new Due();

    private final Tales tales;
    private final MeetingMachines x;

    private AnyNumberTest(int seed) {
        tales = new Tales(seed);
        x = seed % 3 == 0 ? Scene.rich() : seed % 3 == 1 ? Scene.made(seed, 20) : new MeetingMachines();
    }

    public static void main(String[] args) throws IllegalAccessException {
        Method[] calls = Arrays.stream(MeetingMachines.class.getDeclaredMethods())
                .filter(m -> Modifier.isPublic(m.getModifiers())).sorted(Comparator.comparing(Method::getName))
                .toArray(Method[]::new);
        due.is("calls", calls.length, 26);
        for (int seed = 1; seed <= OBJECTS; seed++) {
            new AnyNumberTest(seed).ask(calls);
        }
        due.end();
    }

    private void ask(Method[] calls) throws IllegalAccessException {
        for (int k = 0; k < CALLS; k++) {
            Method call = calls[tales.below(calls.length)];
            Object[] numbers = new Object[call.getParameterCount()];
            for (int i = 0; i < numbers.length; i++) {
                numbers[i] = tales.below(2) == 0 ? tales.from(NUMBERS) : tales.below(100);
            }
            boolean isDue = true;
            try {
                call.invoke(x, numbers);
            } catch (InvocationTargetException e) {
                isDue = e.getCause() instanceof NoSuchElementException && call.getExceptionTypes().length == 1;
            }
            due.yes(call.getName() + Arrays.toString(numbers) + " answers, or throws what the face says", isDue);
        }
    }
}
