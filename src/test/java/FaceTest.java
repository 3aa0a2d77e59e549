import java.lang.reflect.Constructor;
import java.lang.reflect.Field;
import java.lang.reflect.Method;
import java.lang.reflect.Modifier;
import java.util.Set;
import java.util.TreeSet;

/** The class has the face of the document and nothing else that can be seen from outside. */
public final class FaceTest {
    private static final String[] FACE = {"NONE int", "LastWord()", "int feed(long,long,long)", "int village()",
        "int thing(int,int)", "int worth(int,int,int,int) throws NoSuchElementException", "int may(int,int,int,int)",
        "int chooses(int,int,int,boolean)", "long value(int,int,int,int) throws NoSuchElementException",
        "boolean ask(int,int)", "boolean pledge(int,int,int)", "boolean stone(int,boolean)",
        "long odds(int,int,int) throws NoSuchElementException", "long stir(int,int) throws NoSuchElementException",
        "int settled(int)", "long price(int,int,int,int,int) throws NoSuchElementException",
        "long gain(int,int,int,int,int,int,int) throws NoSuchElementException",
        "long lets(int,int,int,int,int,int,int) throws NoSuchElementException",
        "long present(int,int,int,int) throws NoSuchElementException",
        "long hopes(int,int,int) throws NoSuchElementException", "long vow(int,int,int) throws NoSuchElementException",
        "long bind(int,int,int,int,int) throws NoSuchElementException",
        "long order(int,int,int,int,int,int) throws NoSuchElementException",
        "int century(int,int,int,int) throws NoSuchElementException",
        "int fares(int,int,int) throws NoSuchElementException", "int told(int,int,int) throws NoSuchElementException",
        "int bestRule(int)", "int brought(int)", "int rowFor(int,int)", "int bestRow(int,int)", "int row(int,int,int)",
        "boolean clear()", "long judged(int) throws NoSuchElementException",
        "int rowFares(int,boolean) throws NoSuchElementException",
        "long when(int,int) throws NoSuchElementException", "boolean mark(int,boolean)", "int count(int)"};

    private FaceTest() {
    }

    private static String types(Class<?>[] types) {
        StringBuilder text = new StringBuilder();
        for (Class<?> type : types) {
            text.append(text.length() == 0 ? "" : ",").append(type.getSimpleName());
        }
        return text.toString();
    }

    public static void main(String[] args) {
        Set<String> found = new TreeSet<>();
        for (Field field : LastWord.class.getDeclaredFields()) {
            if (!Modifier.isPrivate(field.getModifiers())) {
                found.add(field.getName() + " " + field.getType().getSimpleName());
            }
        }
        for (Constructor<?> made : LastWord.class.getDeclaredConstructors()) {
            found.add("LastWord(" + types(made.getParameterTypes()) + ")");
        }
        Set<String> publicNames = new TreeSet<>();
        Set<String> privateNames = new TreeSet<>();
        for (Method method : LastWord.class.getDeclaredMethods()) {
            if (Modifier.isPrivate(method.getModifiers())) {
                privateNames.add(method.getName());
                continue;
            }
            publicNames.add(method.getName());
            String thrown = types(method.getExceptionTypes());
            found.add(method.getReturnType().getSimpleName() + " " + method.getName() + "("
                    + types(method.getParameterTypes()) + ")" + (thrown.isEmpty() ? "" : " throws " + thrown));
        }
        Set<String> due = new TreeSet<>(Set.of(FACE));
        boolean fine = found.equals(due) && Modifier.isFinal(LastWord.class.getModifiers());
        privateNames.retainAll(publicNames);
        if (!fine || !privateNames.isEmpty()) {
            Set<String> more = new TreeSet<>(found);
            more.removeAll(due);
            due.removeAll(found);
            System.out.println("too many: " + more + ", missing: " + due + ", named twice: " + privateNames);
            System.exit(1);
        }
        System.out.println("the face is as due");
    }
}
