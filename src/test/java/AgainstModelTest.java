import java.lang.reflect.Method;
import java.util.ArrayList;
import java.util.List;
import java.util.Random;

/** Random runs of calls, each made on a LikestHeir and on the Model: both must answer alike. */
public final class AgainstModelTest {
    private static final String[] METHODS = {"mark", "let", "person", "of", "set", "way", "be", "turn", "as", "like",
        "same", "heir", "heirOf", "watched", "changes", "years", "dies", "now", "on", "living", "rich", "when", "gets",
        "change", "fewest", "worth", "best", "steer", "kind", "fair", "ways", "feed", "wipe", "valley", "sheet",
        "write", "copy", "lays", "book", "read", "image", "undo", "tear", "count", "status"};
    private static final int RUNS = 1500;
    private static final int CALLS = 512;
    private static final int LATE_ONE_IN = 6;
    private static final int[] WILD = {-1, -2, 1, 4, 9, 12, 13, 40, 41, 99, 100, 101, 120, 121, 255, 256, 999999,
        1000000, Integer.MAX_VALUE, Integer.MIN_VALUE, Check.BEYOND, 8, 16, 64, 0, 70};
    private static final String[] WORDS = {"person", "copier", "shunner", "kin", "sworn", "twin", "mark", "law", "like",
        "age", "goods", "term", "child", "weighs", "costs", "x", "lik", "kins", "z9"};

    private final Random random;
    private final LikestHeir heir = new LikestHeir();
    private final Model model = new Model();
    private final List<String> log = new ArrayList<>();
    private final int oddOneIn;
    private int left = CALLS;

    private AgainstModelTest(long seed) {
        random = new Random(seed);
        oddOneIn = new int[] {6, 25, 100}[random.nextInt(3)];
    }

    public static void main(String[] args) throws Exception {
        long first = args.length > 0 ? Long.parseLong(args[0]) : 1;
        int runs = args.length > 1 ? Integer.parseInt(args[1]) : RUNS;
        for (long seed = first; seed < first + runs; seed++) {
            if (!new AgainstModelTest(seed).isAlike()) {
                System.out.println("the run of seed " + seed + " went apart");
                System.exit(1);
            }
        }
    }

    private boolean isAlike() throws Exception {
        if (random.nextInt(LATE_ONE_IN) == 0 && !beginsLate()) {
            return false;
        }
        int start = random.nextInt(13);
        for (int i = 0; i < start; i++) {
            if (!same("person", random.nextInt(6), random.nextInt(90))) {
                return false;
            }
        }
        while (left > 0) {
            boolean same = random.nextInt(12) == 0 ? text() : call(METHODS[random.nextInt(METHODS.length)]);
            if (!same) {
                return false;
            }
        }
        return true;
    }

    /** Near YEAR 9999, where fewer years than asked for are left. */
    private boolean beginsLate() throws Exception {
        for (int i = 0; i < 98; i++) {
            if (!same("years", 100)) {
                return false;
            }
        }
        return same("years", 60 + random.nextInt(41)) && same("years", 1 + random.nextInt(99));
    }

    private int below(int n) {
        return random.nextInt(oddOneIn) == 0 ? WILD[random.nextInt(WILD.length)] : random.nextInt(n);
    }

    private int one() {
        int people = model.w.people.size();
        return people == 0 ? below(2) : below(people);
    }

    private int span() {
        return random.nextInt(3) == 0 ? below(101) : below(12);
    }

    private boolean call(String name) throws Exception {
        switch (name) {
            case "mark": return mark();
            case "let": return same(name, below(3));
            case "person": return random.nextInt(3) != 0 || same(name, below(6), below(121));
            case "of": return same(name, one(), below(7));
            case "set": return set();
            case "be": return same(name, one(), below(9), below(4)) && same(name, one(), below(9), below(3));
            case "turn": case "as": return same(name, one(), below(6));
            case "way": case "worth": return same(name, one(), below(9));
            case "like": case "same": case "change": case "fewest": case "steer":
                return same(name, one(), one());
            case "ways": return random.nextInt(8) != 0 || same(name, one(), one());
            case "years": return random.nextInt(2) != 0 || same(name, random.nextInt(9) == 0 ? span() : below(4));
            case "on": case "kind": return same(name, one(), span());
            case "living": case "rich": case "fair": return same(name, span());
            case "feed": return same(name, random.nextInt(), below(5));
            case "sheet": return sheet();
            case "write": return same(name, below(4), below(12), random.nextInt(3) == 0 ? random.nextLong()
                : (long) below(4));
            case "copy": return same(name, below(4), below(7), below(4), below(7), below(7));
            case "lays": return same(name, below(4), one());
            case "book": return same(name, below(4), span());
            case "read": return same(name, below(4));
            case "now": case "count": return same(name, below(4));
            case "status": return same(name, random.nextInt(9) - 1);
            case "wipe": case "valley": case "image": case "tear": return same(name);
            case "undo": return random.nextInt(3) != 0 || same(name);
            default: return same(name, one());
        }
    }

    private boolean mark() throws Exception {
        int what = below(2);
        return same("mark", below(9), what, what == 1 && random.nextBoolean() ? below(100) : below(10));
    }

    private boolean set() throws Exception {
        int what = random.nextInt(oddOneIn) == 0 ? below(7) : 1 + random.nextInt(5);
        switch (what) {
            case 2: return same("set", one(), what, random.nextInt(4) == 0 ? below(1000000) : below(60));
            case 4: return same("set", one(), what, random.nextInt(5) == 0 ? -1 : one());
            case 5: return same("set", one(), what, random.nextInt(3) == 0 ? below(2) : 1);
            default: return same("set", one(), what, below(121));
        }
    }

    private boolean sheet() throws Exception {
        int bits = new int[] {0, 8, 8, 16, 16, 64, 64, 64, below(65)}[random.nextInt(9)];
        return same("sheet", below(4), bits, random.nextInt(6) == 0 ? below(41) : below(12));
    }

    private boolean text() throws Exception {
        StringBuilder text = new StringBuilder();
        int items = 1 + random.nextInt(4);
        for (int i = 0; i < items; i++) {
            item(text);
            if (i < items - 1 || random.nextInt(oddOneIn) == 0) {
                text.append(random.nextBoolean() ? ";" : " ; ");
            }
        }
        while (random.nextInt(oddOneIn) < 3 && text.length() > 0) {
            int place = random.nextInt(text.length());
            switch (random.nextInt(4)) {
                case 0: text.setCharAt(place, (char) random.nextInt(256)); break;
                case 1: text.deleteCharAt(place); break;
                case 2: text.insert(place, ";# 039az".charAt(random.nextInt(8))); break;
                default: text.setLength(place); break;
            }
        }
        for (int i = 0; i < text.length(); ) {
            int n = Math.min(1 + random.nextInt(4), text.length() - i);
            int bytes = random.nextInt();
            for (int j = 0; j < n; j++) {
                bytes = bytes << 8 | text.charAt(i + j);
            }
            if (!same("feed", bytes, n)) {
                return false;
            }
            i += n;
        }
        return same("valley");
    }

    private void item(StringBuilder text) {
        int pick = random.nextInt(10);
        if (pick == 0) {
            text.append("law").append(gap()).append(below(3) & 0xffffL);
        } else if (pick < 4) {
            text.append("mark").append(gap()).append(below(9) & 0xffffL);
            part(text, "weighs", 10);
            part(text, "costs", 100);
        } else {
            text.append(WORDS[below(6) & 15]);
            if (random.nextInt(3) != 0) {
                text.append(gap()).append("like").append(gap());
                int digits = 1 + random.nextInt(random.nextInt(6) == 0 ? 14 : 9);
                for (int i = 0; i < digits; i++) {
                    text.append(random.nextInt(oddOneIn * 4) == 0 ? 4 : i > 3 ? random.nextInt(4) : random.nextInt(2));
                }
            }
            part(text, "age", 121);
            part(text, "goods", 1000000);
            part(text, "term", 121);
            part(text, "child", Math.max(1, model.w.people.size()));
        }
    }

    private void part(StringBuilder text, String word, int below) {
        if (random.nextInt(3) == 0) {
            text.append(gap()).append(random.nextInt(oddOneIn * 2) == 0 ? WORDS[random.nextInt(WORDS.length)] : word);
            text.append(gap()).append(random.nextInt(20) == 0 ? "000" : "").append(below(below) & 0xffffffL);
        }
    }

    private String gap() {
        return new String[] {" ", " ", "", "   "}[random.nextInt(4)];
    }

    private boolean same(String name, Object... args) throws Exception {
        if (left == 0) {
            return true;
        }
        left--;
        Method due = find(Model.class, name);
        Method asked = find(LikestHeir.class, name);
        long want = ((Number) due.invoke(model, args)).longValue();
        long got = ((Number) asked.invoke(heir, args)).longValue();
        StringBuilder call = new StringBuilder(name).append("(");
        for (int i = 0; i < args.length; i++) {
            call.append(i == 0 ? "" : ", ").append(args[i]);
        }
        log.add(call.append(") = ").append(want).toString());
        if (got != want) {
            log.forEach(System.out::println);
            System.out.println("but the last one answered " + got);
        }
        return got == want;
    }

    private static final java.util.Map<String, Method> FOUND = new java.util.HashMap<>();

    private static Method find(Class<?> of, String name) {
        return FOUND.computeIfAbsent(of.getName() + " " + name, key -> {
            for (Method m : of.getDeclaredMethods()) {
                if (m.getName().equals(name)) {
                    m.setAccessible(true);
                    return m;
                }
            }
            throw new IllegalStateException("no " + key);
        });
    }
}
