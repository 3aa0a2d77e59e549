import java.util.ArrayList;
import java.util.Collections;
import java.util.List;
import java.util.Random;

/** Makes texts of villages, whole ones and spoilt ones, by draws. */
final class VillageTexts {
    private static final String[] NAMES = {"a", "bridge", "wall", "kim", "lee", "ann", "zz", "abcdefgh"};
    private static final String[] SPOILS = {"thing", "states", "start", "cost", "stone", "sort", "worth", "chance",
        "spring", "is", "nobody", "bar", "life", "springs", "not", "and", "or", "age", "(", ")", "<", "=", "+", "-",
        "*", ";", "0", "1", "2", "3", "6", "7", "16", "9999", "10000", "12345", "abcdefghi", "a", "kim", "who", "A",
        "/", "\n", "2a", "a2", "springss", "0003", "_", "~"};

    private final Random random;
    private List<String> thingNames = new ArrayList<>();
    private boolean inWorth;

    VillageTexts(Random random) {
        this.random = random;
    }

    private int upTo(int most) {
        return random.nextInt(most + 1);
    }

    /** large: as many of everything as may be. */
    String whole(boolean large) {
        List<String> names = new ArrayList<>(List.of(NAMES));
        Collections.shuffle(names, random);
        List<String> out = new ArrayList<>();
        thingNames = new ArrayList<>();
        int things = large ? 3 : upTo(3);
        for (int t = 0; t < things; t++) {
            String name = names.remove(0);
            int states = 2 + upTo(1);
            String cost = random.nextInt(4) == 0 ? "" + upTo(999) : "" + upTo(6);
            out.add("thing " + name + " states " + states + " start " + upTo(states - 1) + " cost " + cost
                    + (random.nextInt(3) == 0 ? " stone ;" : " ;"));
            thingNames.add(name);
        }
        int sorts = large ? 4 : random.nextInt(8) == 0 ? 0 : 1 + upTo(3);
        List<String> sortNames = new ArrayList<>();
        for (int k = 0; k < sorts; k++) {
            String name = names.remove(0);
            inWorth = true;
            out.add("sort " + name + " worth " + worth() + " ;");
            sortNames.add(name);
        }
        addChances(out, sortNames);
        int springs = large ? 10 + upTo(6) : 1 + upTo(8);
        int told = large ? 2 : upTo(5);
        for (int s = 0; s < 16; s++) {
            boolean early = s < 3 && random.nextInt(3) == 0;
            if (early || random.nextInt(16) < told) {
                boolean nobody = sorts == 0 || random.nextInt(3) == 0;
                out.add("spring " + s + " is " + (nobody ? "nobody" : sortNames.get(upTo(sorts - 1))) + " ;");
            }
        }
        for (int i = random.nextInt(3) == 0 ? 1 + upTo(1) : 0; i > 0; i--) {
            inWorth = false;
            out.add("bar " + bar() + " ;");
        }
        if (large || random.nextInt(5) > 0) {
            out.add("life " + (large ? 4 + upTo(2) : 1 + upTo(4)) + " ;");
        }
        if (large || random.nextInt(5) > 0) {
            out.add("springs " + springs + " ;");
        }
        String text = String.join(random.nextInt(4) == 0 ? "\n" : " ", out);
        return text.length() <= 1000 ? text : whole(large);
    }

    private void addChances(List<String> out, List<String> sortNames) {
        int left = 6;
        for (int k = 0; k < sortNames.size(); k++) {
            int chance = k + 1 == sortNames.size() ? left : upTo(left);
            if (chance > 0 || random.nextBoolean()) {
                out.add("chance " + sortNames.get(k) + " " + chance + " ;");
            }
            left -= chance;
        }
    }

    /** A worth that hangs on things more often than not, so that there is something to choose. */
    private String worth() {
        if (random.nextInt(3) == 0 || thingNames.isEmpty()) {
            return tests(0);
        }
        StringBuilder sum = new StringBuilder("" + upTo(9));
        for (String name : thingNames) {
            String by = random.nextInt(3) == 0 ? " * age" : random.nextInt(4) == 0 ? " * spring" : "";
            sum.append(random.nextBoolean() ? " + " : " - ").append(upTo(9)).append(" * ").append(name).append(by);
        }
        if (thingNames.size() > 1 && random.nextBoolean()) {
            sum.append(random.nextBoolean() ? " + " : " - ").append(upTo(9)).append(" * ")
                    .append(thingNames.get(0)).append(" * ").append(thingNames.get(1));
        }
        return sum.toString();
    }

    private String bar() {
        if (thingNames.isEmpty() || random.nextInt(4) == 0) {
            return tests(0);
        }
        String first = thingNames.get(upTo(thingNames.size() - 1));
        String second = thingNames.get(upTo(thingNames.size() - 1));
        return first + " = " + upTo(2) + " and " + (random.nextBoolean() ? "not " : "") + second;
    }

    private String tests(int around) {
        StringBuilder text = new StringBuilder(test(around));
        for (int i = random.nextInt(4) == 0 ? 1 : 0; i > 0; i--) {
            text.append(random.nextBoolean() ? " and " : " or ").append(test(around));
        }
        return text.toString();
    }

    private String test(int around) {
        String left = sum(around);
        return random.nextInt(4) == 0 ? left + (random.nextBoolean() ? " < " : "=") + sum(around) : left;
    }

    private String sum(int around) {
        StringBuilder text = new StringBuilder(product(around));
        for (int i = random.nextInt(3) == 0 ? 1 : 0; i > 0; i--) {
            text.append(random.nextBoolean() ? " + " : "-").append(product(around));
        }
        return text.toString();
    }

    private String product(int around) {
        StringBuilder text = new StringBuilder(part(around));
        for (int i = random.nextInt(3) == 0 ? 1 + upTo(1) : 0; i > 0; i--) {
            text.append(" * ").append(part(around));
        }
        return text.toString();
    }

    private String part(int around) {
        int kind = random.nextInt(around < 4 ? 10 : 7);
        if (kind >= 8) {
            return "( " + tests(around + 1) + ")";
        }
        if (kind == 7) {
            return "not " + part(around + 1);
        }
        if (kind >= 3 && !thingNames.isEmpty()) {
            return thingNames.get(upTo(thingNames.size() - 1));
        }
        if (kind == 2 && inWorth) {
            return random.nextBoolean() ? "age" : "spring";
        }
        return "" + (random.nextInt(8) == 0 ? upTo(9999) : upTo(20));
    }

    /** A text with some tokens left out, put in, changed or doubled. */
    String spoilt() {
        List<String> tokens = new ArrayList<>(List.of(whole(random.nextInt(4) == 0).split("[ \n]+")));
        for (int i = 1 + upTo(1); i > 0; i--) {
            int at = upTo(tokens.size() - 1);
            String token = random.nextInt(4) == 0 ? "" + (char) (33 + upTo(93)) : SPOILS[upTo(SPOILS.length - 1)];
            switch (random.nextInt(6)) {
                case 0:
                    tokens.remove(at);
                    break;
                case 1:
                    tokens.add(at, token);
                    break;
                case 2:
                    tokens.add(at, tokens.get(upTo(tokens.size() - 1)));
                    break;
                case 3:
                    tokens = new ArrayList<>(tokens.subList(0, at + 1));
                    break;
                default:
                    tokens.set(at, token);
                    break;
            }
            if (tokens.isEmpty()) {
                tokens.add(";");
            }
        }
        String text = String.join(random.nextInt(8) == 0 ? "" : " ", tokens);
        return text.length() <= 1000 ? text : text.substring(0, 1000);
    }
}
