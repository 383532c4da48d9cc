import java.math.BigInteger;
import java.util.ArrayList;
import java.util.List;
import java.util.regex.Matcher;
import java.util.regex.Pattern;

/** The text of a valley for the Model: cut into tokens by a pattern first, and then walked through. */
final class ModelText {
    private static final Pattern TOKEN = Pattern.compile(" *([a-z]+|[0-9]+|[^ ])", Pattern.DOTALL);
    private static final List<String> KINDS = List.of("person", "copier", "shunner", "kin", "sworn", "twin");

    private final List<String> tokens = new ArrayList<>();
    private final List<Integer> places = new ArrayList<>();
    private final Model.World world;
    private int at;

    private static final class Fault extends Exception {
        private static final long serialVersionUID = 1L;
    }

    ModelText(String text, Model.World world) {
        this.world = world;
        Matcher matcher = TOKEN.matcher(text);
        while (matcher.find()) {
            tokens.add(matcher.group(1));
            places.add(matcher.start(1));
        }
        tokens.add("");
        places.add(text.length());
    }

    int items() {
        try {
            int n = 0;
            do {
                item();
                n++;
            } while (isNext(";"));
            if (!tokens.get(at).isEmpty()) {
                throw new Fault();
            }
            return n;
        } catch (Fault fault) {
            return -1 - places.get(at);
        }
    }

    private boolean isNext(String token) {
        boolean is = tokens.get(at).equals(token);
        at += is ? 1 : 0;
        return is;
    }

    private int number(int least, int most, String digits) throws Fault {
        String token = tokens.get(at);
        if (!token.matches("[" + digits + "]+")) {
            throw new Fault();
        }
        BigInteger v = new BigInteger(token);
        if (v.compareTo(BigInteger.valueOf(least)) < 0 || v.compareTo(BigInteger.valueOf(most)) > 0) {
            throw new Fault();
        }
        at++;
        return v.intValue();
    }

    private void item() throws Fault {
        if (isNext("law")) {
            world.law = number(0, 2, "0-9");
        } else if (isNext("mark")) {
            int mark = number(0, 8, "0-9");
            if (isNext("weighs")) {
                world.weighs[mark] = number(0, 9, "0-9");
            }
            if (isNext("costs")) {
                world.costs[mark] = number(0, 99, "0-9");
            }
        } else if (KINDS.contains(tokens.get(at)) && world.people.size() < 12) {
            person(KINDS.indexOf(tokens.get(at++)));
        } else {
            throw new Fault();
        }
    }

    private void person(int kind) throws Fault {
        Model.One one = new Model.One();
        one.kind = kind;
        if (isNext("like")) {
            int v = number(0, 999999999, "0-3");
            for (int m = 0; m < 9; m++) {
                one.ways[m] = v % 10;
                v /= 10;
            }
        }
        if (isNext("age")) {
            one.age = number(0, 120, "0-9");
        }
        if (isNext("goods")) {
            one.goods = number(0, 999999, "0-9");
        }
        if (isNext("term")) {
            one.term = number(1, 120, "0-9");
        }
        if (isNext("child")) {
            one.child = number(0, world.people.size() - 1, "0-9");
        }
        world.people.add(one);
    }
}
