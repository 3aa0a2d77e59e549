import java.util.ArrayList;
import java.util.List;
import java.util.regex.Matcher;
import java.util.regex.Pattern;

/** The language of the villages once more, by patterns and exceptions, for the model. */
final class ModelReader {
    static final class Fault extends Exception {
        private static final long serialVersionUID = 1L;
        final int code;

        Fault(int kind, int place) {
            this.code = kind + 16 * place;
        }
    }

    private static final List<String> RESERVED = List.of("thing", "states", "start", "cost", "stone", "sort", "worth",
            "chance", "spring", "is", "nobody", "bar", "life", "springs", "not", "and", "or", "age");
    private static final Pattern TOKEN = Pattern.compile("[a-z]+|[0-9]+|[^ \n]");

    private final List<String> tokens = new ArrayList<>();
    private final List<Integer> places = new ArrayList<>();
    private int at = 0;
    private boolean inWorth;
    private final Model m = new Model();

    private ModelReader(String text) {
        Matcher matcher = TOKEN.matcher(text);
        while (matcher.find()) {
            tokens.add(matcher.group());
            places.add(matcher.start());
        }
        tokens.add("");
        places.add(text.length());
    }

    static Model read(String text) throws Fault {
        ModelReader r = new ModelReader(text);
        r.readAll();
        return r.m;
    }

    private String now() {
        return tokens.get(at);
    }

    private Fault fault(int kind) {
        return new Fault(kind, places.get(at));
    }

    private void take(String text) throws Fault {
        if (!now().equals(text)) {
            throw fault(1);
        }
        at++;
    }

    private boolean isName() {
        return now().matches("[a-z]{1,8}") && !RESERVED.contains(now());
    }

    private int number(int least, int most) throws Fault {
        if (!now().matches("[0-9]{1,4}")) {
            throw fault(1);
        }
        int n = Integer.parseInt(now());
        if (n < least || n > most) {
            throw fault(4);
        }
        return n;
    }

    private int thingOf(String name) {
        for (int t = 0; t < m.things.size(); t++) {
            if (m.things.get(t).name.equals(name)) {
                return t;
            }
        }
        return -1;
    }

    private int sortOf(String name) {
        for (int k = 0; k < m.sorts.size(); k++) {
            if (m.sorts.get(k).name.equals(name)) {
                return k;
            }
        }
        return -1;
    }

    private String newName() throws Fault {
        if (!isName()) {
            throw fault(1);
        }
        if (thingOf(now()) >= 0 || sortOf(now()) >= 0) {
            throw fault(3);
        }
        return tokens.get(at++);
    }

    private void readAll() throws Fault {
        boolean life = false;
        boolean springs = false;
        while (!now().isEmpty()) {
            String word = now();
            if (word.equals("thing") && m.things.size() == 3 || word.equals("sort") && m.sorts.size() == 4
                    || word.equals("bar") && m.bars.size() == 4) {
                throw fault(5);
            }
            if (word.equals("life") && life || word.equals("springs") && springs) {
                throw fault(3);
            }
            at++;
            switch (word) {
                case "thing":
                    readThing();
                    break;
                case "sort":
                    readSort();
                    break;
                case "chance":
                    readChance();
                    break;
                case "spring":
                    readSpring();
                    break;
                case "bar":
                    inWorth = false;
                    m.bars.add(tests(0));
                    break;
                case "life":
                    m.life = number(1, 6);
                    life = true;
                    at++;
                    break;
                case "springs":
                    m.springs = number(1, 16);
                    springs = true;
                    at++;
                    break;
                default:
                    at--;
                    throw fault(1);
            }
            take(";");
        }
        int six = m.sorts.stream().mapToInt(s -> s.chance).sum();
        if (!m.sorts.isEmpty() && six != 6) {
            throw fault(6);
        }
        for (int t = 0; t < m.things.size(); t++) {
            m.stone[t] = m.things.get(t).stone;
        }
    }

    private void readThing() throws Fault {
        Model.Thing t = new Model.Thing();
        t.name = newName();
        take("states");
        t.states = number(2, 3);
        at++;
        take("start");
        t.start = number(0, t.states - 1);
        at++;
        take("cost");
        t.cost = number(0, 999);
        at++;
        if (now().equals("stone")) {
            t.stone = true;
            at++;
        }
        m.things.add(t);
    }

    private void readSort() throws Fault {
        Model.Sort k = new Model.Sort();
        k.name = newName();
        take("worth");
        inWorth = true;
        k.worth = tests(0);
        m.sorts.add(k);
    }

    private void readChance() throws Fault {
        if (!isName()) {
            throw fault(1);
        }
        if (sortOf(now()) < 0) {
            throw fault(2);
        }
        Model.Sort k = m.sorts.get(sortOf(now()));
        if (k.chanceTold) {
            throw fault(3);
        }
        k.chanceTold = true;
        at++;
        k.chance = number(0, 6);
        at++;
    }

    private void readSpring() throws Fault {
        int s = number(0, 15);
        if (m.comes[s] != Model.UNTOLD) {
            throw fault(3);
        }
        at++;
        take("is");
        if (now().equals("nobody")) {
            m.comes[s] = -1;
        } else if (!isName()) {
            throw fault(1);
        } else if (sortOf(now()) < 0) {
            throw fault(2);
        } else {
            m.comes[s] = sortOf(now());
        }
        at++;
    }

    private Model.Node tests(int around) throws Fault {
        Model.Node left = test(around);
        while (now().equals("and") || now().equals("or")) {
            String op = tokens.get(at++);
            left = new Model.Node(op, left, test(around));
        }
        return left;
    }

    private Model.Node test(int around) throws Fault {
        Model.Node left = sum(around);
        if (now().equals("<") || now().equals("=")) {
            String op = tokens.get(at++);
            return new Model.Node(op, left, sum(around));
        }
        return left;
    }

    private Model.Node sum(int around) throws Fault {
        Model.Node left = product(around);
        while (now().equals("+") || now().equals("-")) {
            String op = tokens.get(at++);
            left = new Model.Node(op, left, product(around));
        }
        return left;
    }

    private Model.Node product(int around) throws Fault {
        Model.Node left = part(around);
        while (now().equals("*")) {
            at++;
            left = new Model.Node("*", left, part(around));
        }
        return left;
    }

    private Model.Node part(int around) throws Fault {
        boolean fact = inWorth && (now().equals("age") || now().equals("spring"));
        boolean number = now().matches("[0-9]{1,4}");
        if (!fact && !number && !isName() && !now().equals("not") && !now().equals("(")) {
            throw fault(1);
        }
        if (isName() && thingOf(now()) < 0) {
            throw fault(2);
        }
        if (around == 5) {
            throw fault(5);
        }
        String word = tokens.get(at++);
        if (word.equals("not")) {
            return new Model.Node("not", part(around + 1), null);
        }
        if (word.equals("(")) {
            Model.Node inside = tests(around + 1);
            take(")");
            return inside;
        }
        return new Model.Node(fact || number ? word : "t" + thingOf(word), null, null);
    }
}
