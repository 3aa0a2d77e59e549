import java.io.IOException;
import java.lang.reflect.InvocationTargetException;
import java.lang.reflect.Method;
import java.lang.reflect.Modifier;
import java.nio.file.Files;
import java.nio.file.Path;
import java.util.NoSuchElementException;
import java.util.Map;
import java.util.Set;
import java.util.TreeMap;
import java.util.TreeSet;
import java.util.regex.Matcher;
import java.util.regex.Pattern;

/** Tries every line of Java in README.md: it must answer what stands behind it. */
public final class ReadmeTest {
    private static final String MADE = "LastWord x = new LastWord();";
    private static final Pattern CALL =
            Pattern.compile("x\\.(\\w+)\\((.*)\\); +// (throws NoSuchElementException|true|false|-?\\d+)(?:: (.+))?");

    private final Map<String, Method> face = new TreeMap<>();
    private final Set<String> shown = new TreeSet<>();
    private final StringBuilder village = new StringBuilder();
    private final StringBuilder fed = new StringBuilder();
    private LastWord x = null;
    private int lines = 0;
    private int wrong = 0;

    private ReadmeTest() {
        for (Method method : LastWord.class.getDeclaredMethods()) {
            if (Modifier.isPublic(method.getModifiers())) {
                face.put(method.getName(), method);
            }
        }
    }

    private void tell(String what) {
        wrong++;
        System.out.println("README.md: " + what);
    }

    private static Object argument(Class<?> type, String written) {
        if (type == boolean.class) {
            return Boolean.valueOf(written);
        }
        return type == long.class ? (Object) Long.decode(written.replace("L", "")) : (Object) Integer.valueOf(written);
    }

    private String answer(Method method, String written) throws IllegalAccessException {
        String[] parts = written.isEmpty() ? new String[0] : written.split(", ");
        Object[] arguments = new Object[parts.length];
        for (int i = 0; i < parts.length; i++) {
            arguments[i] = argument(method.getParameterTypes()[i], parts[i]);
        }
        try {
            return method.invoke(x, arguments).toString();
        } catch (InvocationTargetException e) {
            boolean told = e.getCause() instanceof NoSuchElementException;
            return told ? "throws NoSuchElementException" : "throws " + e.getCause();
        }
    }

    /** The signs that are quoted behind a feed must be those that its longs hold. */
    private void compareSigns(String written, String words) {
        StringBuilder signs = new StringBuilder();
        for (String part : written.split(", ")) {
            long bytes = (Long) argument(long.class, part);
            for (int shift = 56; shift >= 0; shift -= 8) {
                int sign = (int) (bytes >>> shift) & 255;
                signs.append(sign == 0 ? "" : String.valueOf((char) sign));
            }
        }
        fed.append(signs);
        if (!("\"" + signs + "\"").equals(words)) {
            tell("the longs hold \"" + signs + "\", not " + words);
        }
    }

    private void tryLine(String line) throws IllegalAccessException {
        if (line.equals(MADE)) {
            x = new LastWord();
            return;
        }
        Matcher call = CALL.matcher(line);
        if (x == null || !call.matches() || !face.containsKey(call.group(1))) {
            tell("is no call with its answer: " + line);
            return;
        }
        lines++;
        shown.add(call.group(1));
        String got = answer(face.get(call.group(1)), call.group(2));
        if (!got.equals(call.group(3))) {
            tell(line + " -- answered " + got);
        }
        if (call.group(1).equals("feed")) {
            compareSigns(call.group(2), call.group(4));
        }
    }

    private void tryAll(Iterable<String> page) throws IllegalAccessException {
        String block = "";
        for (String line : page) {
            if (line.startsWith("```")) {
                block = line.substring(3);
            } else if (block.equals("java")) {
                tryLine(line);
            } else if (block.equals("text")) {
                village.append(village.length() == 0 ? "" : " ").append(line);
            }
        }
        if (village.length() == 0 || fed.indexOf(village.toString()) != 0) {
            tell("the village that is shown is not the one that is fed");
        }
        Set<String> missing = new TreeSet<>(face.keySet());
        missing.removeAll(shown);
        if (!missing.isEmpty()) {
            tell("shows no call of " + missing);
        }
    }

    public static void main(String[] args) throws IOException, IllegalAccessException {
        ReadmeTest test = new ReadmeTest();
        test.tryAll(Files.readAllLines(Path.of("README.md")));
        System.out.println(test.lines + " lines of README.md: "
                + (test.wrong == 0 ? "all answers are as shown" : test.wrong + " wrong"));
        if (test.wrong != 0) {
            System.exit(1);
        }
    }
}
