import java.lang.reflect.InvocationTargetException;
import java.lang.reflect.Method;
import java.util.ArrayList;
import java.util.Arrays;
import java.util.Comparator;
import java.util.HashMap;
import java.util.List;
import java.util.Map;
import java.util.function.Consumer;

/** One test of a boundary: the object that it asks, how many calls that has had, and what was not as due. */
final class Edge {
    static final int BEYOND = Check.BEYOND;
    static final int FULL = Check.FULL;
    static final int KIND = Check.KIND;
    static final int NONE = Check.NONE;
    static final int STATE = Check.STATE;
    static final int MISSING = Check.MISSING;
    static final int SIZE = Check.SIZE;
    static final int MIN = Integer.MIN_VALUE;
    static final int MAX = Integer.MAX_VALUE;

    private static final int MOST_CALLS = 512;
    private static final int FINDINGS = 7;
    private static final Map<String, Method> FACE = face();

    private final String test;
    private final Check check;
    private LikestHeir heir;
    private int calls;

    private Edge(String test, Check check) {
        this.test = test;
        this.check = check;
        anew();
    }

    private static Map<String, Method> face() {
        Map<String, Method> face = new HashMap<>();
        for (Method m : LikestHeir.class.getDeclaredMethods()) {
            face.put(m.getName(), m);
        }
        return face;
    }

    /** Runs each test of a class, each with an object of its own. */
    static void run(Class<?> tests) throws ReflectiveOperationException {
        Check check = new Check();
        Method[] methods = tests.getDeclaredMethods();
        Arrays.sort(methods, Comparator.comparing(Method::getName));
        int run = 0;
        for (Method m : methods) {
            if (m.isAnnotationPresent(Says.class)) {
                m.setAccessible(true);
                m.invoke(null, new Edge(m.getName(), check));
                run++;
            }
        }
        check.holds(tests + " has tests", run > 0);
        check.end();
    }

    void anew() {
        heir = new LikestHeir();
        calls = 0;
    }

    /** Makes a call. One behind the 512th is the test's own fault: what it answers is free. */
    long call(String name, Object... args) {
        calls++;
        check.holds(test + ": at most 512 calls", calls <= MOST_CALLS);
        try {
            return ((Number) FACE.get(name).invoke(heir, args)).longValue();
        } catch (InvocationTargetException | IllegalAccessException e) {
            throw new IllegalStateException(told(name, args) + " must answer", e);
        }
    }

    void due(long want, String name, Object... args) {
        check.due(test + ": " + told(name, args), call(name, args), want);
    }

    private static String told(String name, Object... args) {
        String list = Arrays.toString(args);
        return name + "(" + list.substring(1, list.length() - 1) + ")";
    }

    // ---- what many tests begin with

    /** New people of these KINDS, each of AGE 30. */
    void people(int... kinds) {
        for (int kind : kinds) {
            call("person", kind, 30);
        }
    }

    void twelve(int kind, int age) {
        for (int i = 0; i < 12; i++) {
            call("person", kind, age);
        }
    }

    void ways(int one, int... ways) {
        for (int m = 0; m < ways.length; m++) {
            call("be", one, m, ways[m]);
        }
    }

    void dueWays(int one, int... ways) {
        for (int m = 0; m < ways.length; m++) {
            due(ways[m], "way", one, m);
        }
    }

    /** KIND, AGE, GOODS, TERM, CHILD, LIVING. */
    void dueOf(int one, int... things) {
        for (int what = 0; what < things.length; what++) {
            due(things[what], "of", one, what);
        }
    }

    void feed(String text) {
        for (int i = 0; i < text.length(); i += 4) {
            int n = Math.min(4, text.length() - i);
            int bytes = 0;
            for (int j = 0; j < n; j++) {
                bytes = bytes << 8 | text.charAt(i + j);
            }
            call("feed", bytes, n);
        }
    }

    void numbers(int s, int bits, long... numbers) {
        call("sheet", s, bits, numbers.length);
        for (int i = 0; i < numbers.length; i++) {
            call("write", s, i, numbers[i]);
        }
    }

    /** Asks for the numbers by writing each again, so that they stay. */
    void dueNumbers(int s, long... numbers) {
        for (int i = 0; i < numbers.length; i++) {
            due(numbers[i], "write", s, i, numbers[i]);
        }
    }

    void goTo(int year) {
        for (int i = 0; i < year / 100; i++) {
            call("years", 100);
        }
        if (year % 100 != 0) {
            call("years", year % 100);
        }
        due(year, "now", 0);
    }

    /**
     * A valley in which nothing is as at first: PEOPLE 0 to 3, of whom 2 is DEAD, an image of two of them,
     * sheets 0 to 2, a finding, and a text on THE TAPE.
     */
    void liveIn() {
        feed("kin like 3021 age 40 goods 60 term 90;copier like 1 age 66");
        call("valley");
        call("set", 0, 4, 1);
        call("image");
        people(2, 4);
        ways(2, 1, 2, 3);
        call("be", 3, 8, 2);
        call("mark", 3, 0, 7);
        call("mark", 4, 1, 9);
        call("let", 2);
        call("years", 2);
        call("dies", 2);
        call("set", 2, 2, 5);
        numbers(0, 8, 1, -3, 2);
        numbers(1, 16, 300, 3);
        numbers(2, 64, 1L << 40, 2);
        call("let", 3);
        feed("law 1;kin age 7");
    }

    // ---- what is refused

    /** The call answers a finding, which is counted, and all else is as if it hadn't been made. */
    void refused(long finding, String name, Object... args) {
        refusedAfter(Edge::liveIn, finding, name, args);
    }

    void refusedAfter(Consumer<Edge> before, long finding, String name, Object... args) {
        String call = told(name, args);
        Edge asked = new Edge(test + ", " + call + " refused", check);
        Edge spared = new Edge(test + ", " + call + " not asked", check);
        before.accept(asked);
        before.accept(spared);
        long[] were = asked.statuses();
        asked.due(finding, name, args);
        long[] are = asked.statuses();
        for (int which = -1; which < FINDINGS; which++) {
            int more = which == -1 || which == BEYOND - finding ? 1 : 0;
            check.due(asked.test + ": status(" + which + ")", are[which + 1], were[which + 1] + more);
        }
        spared.statuses();
        List<Long> is = asked.portrait();
        List<Long> due = spared.portrait();
        check.holds(asked.test + " changes nothing: " + is + ", due is " + due, is.equals(due));
    }

    private long[] statuses() {
        long[] statuses = new long[FINDINGS + 1];
        for (int which = -1; which < FINDINGS; which++) {
            statuses[which + 1] = call("status", which);
        }
        return statuses;
    }

    /** All that an object answers of how it is; asking changes it, but each one like it likewise. */
    private List<Long> portrait() {
        List<Long> answers = new ArrayList<>();
        portrayValley(answers, 0);
        for (int s = 0; s < 4; s++) {
            portraySheet(answers, s);
        }
        int people = (int) call("count", 0);
        answers.add(call("count", 1));
        answers.add(call("valley"));
        portrayValley(answers, people);
        answers.add(call("undo"));
        portrayValley(answers, 0);
        answers.add(call("tear"));
        return answers;
    }

    private void portrayValley(List<Long> answers, int firstOne) {
        long people = call("count", 0);
        answers.add(people);
        answers.add(call("now", 0));
        answers.add(call("now", 1));
        for (int one = firstOne; one < people; one++) {
            for (int what = 0; what < 6; what++) {
                answers.add(call("of", one, what));
            }
            for (int mark = 0; mark < 9; mark++) {
                answers.add(call("way", one, mark));
            }
        }
        for (int mark = 0; mark < 9; mark++) {
            answers.add(call("mark", mark, 0, 1));
            answers.add(call("mark", mark, 1, 1));
        }
    }

    private void portraySheet(List<Long> answers, int s) {
        long was = call("write", s, 0, 300);
        answers.add(was);
        for (int i = 1; was != BEYOND && was != MISSING; i++) {
            was = call("write", s, i, 0);
            answers.add(was);
        }
        // What becomes of 300 and of 70000 tells of how many bits the numbers are.
        answers.add(call("write", s, 0, 70000));
        answers.add(call("write", s, 0, 0));
    }
}
