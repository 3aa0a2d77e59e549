import java.lang.reflect.InvocationTargetException;
import java.lang.reflect.Method;
import java.util.Arrays;
import java.util.Comparator;
import java.util.NoSuchElementException;
import java.util.Random;

/** Calls with wild arguments in wild states: nothing may be thrown but what the document names, where it names it. */
public final class WildTest {
    private static final int[] EDGES = {Integer.MIN_VALUE, Integer.MIN_VALUE + 1, -10000, -17, -2, -1, 16, 17, 26, 27, 28,
        255, 9999, 10000, 65536, Integer.MAX_VALUE - 1, Integer.MAX_VALUE};

    private WildTest() {
    }

    private static Object argument(Class<?> type, Random random) {
        if (type == boolean.class) {
            return random.nextBoolean();
        }
        if (type == long.class) {
            return random.nextLong();
        }
        return random.nextInt(4) == 0 ? EDGES[random.nextInt(EDGES.length)] : random.nextInt(random.nextBoolean() ? 3 : 16);
    }

    public static void main(String[] args) throws IllegalAccessException {
        Method[] methods = LastWord.class.getDeclaredMethods();
        methods = Arrays.stream(methods).filter(m -> java.lang.reflect.Modifier.isPublic(m.getModifiers()))
                .sorted(Comparator.comparing(Method::getName)).toArray(Method[]::new);
        int wrong = 0;
        int calls = 0;
        for (int seed = 0; seed < 600; seed++) {
            Random random = new Random(seed);
            VillageTexts texts = new VillageTexts(random);
            LastWord x = new LastWord();
            for (int i = 0; i < 200; i++) {
                if (random.nextInt(60) == 0) {
                    x.village();
                    Tape.village(x, random.nextInt(4) == 0 ? texts.spoilt() : texts.whole(random.nextInt(6) == 0));
                }
                Method method = methods[random.nextInt(methods.length)];
                Object[] wild = new Object[method.getParameterCount()];
                for (int a = 0; a < wild.length; a++) {
                    wild[a] = argument(method.getParameterTypes()[a], random);
                }
                calls++;
                try {
                    method.invoke(x, wild);
                } catch (InvocationTargetException e) {
                    boolean told = e.getCause() instanceof NoSuchElementException && method.getExceptionTypes().length > 0;
                    if (!told) {
                        wrong++;
                        System.out.println(method.getName() + Arrays.toString(wild) + " threw " + e.getCause());
                    }
                }
            }
        }
        System.out.println(calls + " wild calls: " + (wrong == 0 ? "nothing is thrown that is not told" : wrong + " wrong"));
        if (wrong != 0) {
            System.exit(1);
        }
    }
}
