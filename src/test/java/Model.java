import java.util.ArrayList;
import java.util.List;

/**
 * The document again, said in the slowest and plainest way, to compare LikestHeir with. It shares no code
 * and no way of holding things with it: people are objects, ways are rows, and every trial is a deep copy.
 */
final class Model {
    static final class One {
        int kind;
        int age;
        int goods = 10;
        int term = 70;
        int child = -1;
        boolean living = true;
        int[] ways = new int[9];

        One copy() {
            One c = new One();
            c.kind = kind;
            c.age = age;
            c.goods = goods;
            c.term = term;
            c.child = child;
            c.living = living;
            c.ways = ways.clone();
            return c;
        }
    }

    static final class World {
        int[] weighs = {1, 1, 1, 1, 1, 1, 1, 1, 1};
        int[] costs = {2, 2, 2, 2, 2, 2, 2, 2, 2};
        int law;
        int year;
        List<One> people = new ArrayList<>();

        World copy() {
            World c = new World();
            c.weighs = weighs.clone();
            c.costs = costs.clone();
            c.law = law;
            c.year = year;
            for (One o : people) {
                c.people.add(o.copy());
            }
            return c;
        }

        boolean isSame(int one, int other, int mark) {
            boolean sworn = people.get(other).kind == 4;
            return sworn && mark == 8 || people.get(one).ways[mark] == people.get(other).ways[mark];
        }

        int like(int one, int other) {
            int sum = 0;
            for (int m = 0; m < 9; m++) {
                if (isSame(one, other, m)) {
                    sum += weighs[m];
                }
            }
            if (law == 1 && people.get(one).child == other) {
                sum += 5;
            }
            return sum;
        }

        /** Whether a would inherit from one ahead of b. */
        boolean isAhead(int one, int a, int b) {
            if (like(one, a) != like(one, b)) {
                return like(one, a) > like(one, b);
            }
            if (people.get(a).age != people.get(b).age) {
                return people.get(a).age > people.get(b).age;
            }
            return a < b;
        }

        int heir(int one) {
            int heir = -1;
            for (int p = people.size() - 1; p >= 0; p--) {
                if (p != one && people.get(p).living && (heir == -1 || isAhead(one, p, heir))) {
                    heir = p;
                }
            }
            return heir;
        }

        int richest(int but) {
            int rich = -1;
            for (int p = people.size() - 1; p >= 0; p--) {
                if (p != but && people.get(p).living
                        && (rich == -1 || people.get(p).goods >= people.get(rich).goods)) {
                    rich = p;
                }
            }
            return rich;
        }

        int aims(int one) {
            One o = people.get(one);
            int child = o.child >= 0 && people.get(o.child).living ? o.child : -1;
            if (o.kind == 1 || o.kind == 4) {
                return richest(one);
            }
            if (o.kind == 3) {
                return child;
            }
            if (o.kind == 5) {
                return child >= 0 ? child : heir(one);
            }
            return -1;
        }

        /** The mark and the way, or null. */
        int[] changes(int one) {
            One o = people.get(one);
            int whom = o.kind == 2 ? heir(one) : aims(one);
            if (whom == -1) {
                return null;
            }
            for (int m = 0; m < 9; m++) {
                if (o.kind == 4 && m == 8) {
                    continue;
                }
                boolean alike = o.ways[m] == people.get(whom).ways[m];
                if (alike == (o.kind == 2)) {
                    if (o.goods < costs[m]) {
                        return null;
                    }
                    return new int[] {m, o.kind == 2 ? (o.ways[m] == 3 ? 0 : o.ways[m] + 1)
                        : people.get(whom).ways[m]};
                }
            }
            return null;
        }

        void give(int one, int coins) {
            One o = people.get(one);
            o.goods = o.goods + coins > 999999 ? 999999 : o.goods + coins;
        }

        int die(int one) {
            One o = people.get(one);
            o.living = false;
            int heir = heir(one);
            int left = o.goods;
            o.goods = 0;
            if (heir == -1) {
                return -1;
            }
            if (law != 2) {
                give(heir, left);
                return heir;
            }
            people.get(heir).living = false;
            int second = heir(one);
            people.get(heir).living = true;
            if (second == -1) {
                give(heir, left);
            } else {
                give(heir, (left + 1) / 2);
                give(second, left - (left + 1) / 2);
            }
            return heir;
        }

        /** The heirs of those who die in this year, by number; -2 for those who don't. */
        int[] year() {
            int[] heirs = new int[people.size()];
            for (int p = 0; p < people.size(); p++) {
                if (people.get(p).living) {
                    int[] change = changes(p);
                    if (change != null) {
                        people.get(p).ways[change[0]] = change[1];
                        people.get(p).goods -= costs[change[0]];
                    }
                }
            }
            for (One o : people) {
                if (o.living && o.age < 120) {
                    o.age++;
                }
            }
            for (int p = 0; p < people.size(); p++) {
                heirs[p] = -2;
                if (people.get(p).living && people.get(p).age >= people.get(p).term) {
                    heirs[p] = die(p);
                }
            }
            year++;
            return heirs;
        }

        World on(int n) {
            World w = copy();
            for (int i = 0; i < n; i++) {
                w.year();
            }
            return w;
        }

        int expected(int one) {
            int sum = 0;
            for (int p = 0; p < people.size(); p++) {
                if (people.get(p).living && heir(p) == one) {
                    sum += people.get(p).goods;
                }
            }
            return sum;
        }
    }

    World w = new World();
    World image;
    StringBuilder tape = new StringBuilder();
    int[] bits = new int[4];
    long[][] sheets = new long[4][];
    int[] found = new int[7];

    private int f(int finding) {
        found[Check.BEYOND - finding]++;
        return finding;
    }

    private boolean no(int one) {
        return one < 0 || one >= w.people.size();
    }

    private One one(int one) {
        return w.people.get(one);
    }

    int mark(int mark, int what, int v) {
        if (mark < 0 || mark > 8 || what < 0 || what > 1 || v < 0 || v > (what == 0 ? 9 : 99)) {
            return f(Check.BEYOND);
        }
        int[] row = what == 0 ? w.weighs : w.costs;
        int was = row[mark];
        row[mark] = v;
        return was;
    }

    int let(int v) {
        if (v < 0 || v > 2) {
            return f(Check.BEYOND);
        }
        int was = w.law;
        w.law = v;
        return was;
    }

    int person(int kind, int age) {
        if (kind < 0 || kind > 5 || age < 0 || age > 120) {
            return f(Check.BEYOND);
        }
        if (w.people.size() == 12) {
            return f(Check.FULL);
        }
        One o = new One();
        o.kind = kind;
        o.age = age;
        w.people.add(o);
        return w.people.size() - 1;
    }

    int of(int one, int what) {
        if (no(one) || what < 0 || what > 6) {
            return f(Check.BEYOND);
        }
        One o = one(one);
        int[] all = {o.kind, o.age, o.goods, o.term, o.child, o.living ? 1 : 0, w.aims(one)};
        return all[what];
    }

    int set(int one, int what, int v) {
        if (no(one) || what < 1 || what > 5) {
            return f(Check.BEYOND);
        }
        int[] least = {0, 0, 0, 1, -1, 0};
        int[] most = {0, 120, 999999, 120, w.people.size() - 1, 1};
        if (v < least[what] || v > most[what] || what == 4 && v == one) {
            return f(Check.BEYOND);
        }
        One o = one(one);
        int was = of(one, what);
        if (what == 1) {
            o.age = v;
        } else if (what == 2) {
            o.goods = v;
        } else if (what == 3) {
            o.term = v;
        } else if (what == 4) {
            o.child = v;
        } else {
            o.living = v == 1;
        }
        return was;
    }

    int way(int one, int mark) {
        return no(one) || mark < 0 || mark > 8 ? f(Check.BEYOND) : one(one).ways[mark];
    }

    int be(int one, int mark, int v) {
        if (no(one) || mark < 0 || mark > 8 || v < 0 || v > 3) {
            return f(Check.BEYOND);
        }
        int was = one(one).ways[mark];
        one(one).ways[mark] = v;
        return was;
    }

    int turn(int one, int kind) {
        if (no(one) || kind < 0 || kind > 5) {
            return f(Check.BEYOND);
        }
        int was = one(one).kind;
        one(one).kind = kind;
        return was;
    }

    int as(int one, int kind) {
        if (no(one) || kind < 0 || kind > 5) {
            return f(Check.BEYOND);
        }
        int k = one(one).kind;
        boolean isOne = kind == 0 || k == kind || kind == 1 && k == 4 || kind == 3 && k == 5;
        return isOne ? one(one).goods : f(Check.KIND);
    }

    int like(int one, int other) {
        return no(one) || no(other) || one == other ? f(Check.BEYOND) : w.like(one, other);
    }

    int same(int one, int other) {
        if (no(one) || no(other) || one == other) {
            return f(Check.BEYOND);
        }
        int n = 0;
        for (int m = 0; m < 9; m++) {
            n += one(one).ways[m] == one(other).ways[m] ? 1 : 0;
        }
        return n;
    }

    int heir(int one) {
        if (no(one)) {
            return f(Check.BEYOND);
        }
        return w.heir(one) == -1 ? f(Check.NONE) : w.heir(one);
    }

    int heirOf(int one) {
        if (no(one)) {
            return f(Check.BEYOND);
        }
        int set = 0;
        for (int p = 0; p < w.people.size(); p++) {
            set |= one(p).living && w.heir(p) == one ? 1 << p : 0;
        }
        return set;
    }

    int watched(int one) {
        if (no(one)) {
            return f(Check.BEYOND);
        }
        int set = 0;
        for (int p = 0; p < w.people.size(); p++) {
            set |= one(p).living && w.aims(p) == one ? 1 << p : 0;
        }
        return set;
    }

    int changes(int one) {
        if (no(one)) {
            return f(Check.BEYOND);
        }
        int[] change = w.changes(one);
        return change == null || !one(one).living ? f(Check.NONE) : change[0];
    }

    int years(int n) {
        if (n < 1 || n > 100) {
            return f(Check.BEYOND);
        }
        if (w.year + n > 9999) {
            return f(Check.STATE);
        }
        int dead = 0;
        for (int i = 0; i < n; i++) {
            for (int heir : w.year()) {
                dead += heir == -2 ? 0 : 1;
            }
        }
        return dead;
    }

    int dies(int one) {
        if (no(one)) {
            return f(Check.BEYOND);
        }
        return one(one).living ? w.die(one) : f(Check.STATE);
    }

    int now(int what) {
        int live = 0;
        int goods = 0;
        for (One o : w.people) {
            live += o.living ? 1 : 0;
            goods += o.living ? o.goods : 0;
        }
        return what < 0 || what > 3 ? f(Check.BEYOND) : new int[] {w.year, w.law, live, goods}[what];
    }

    int on(int one, int n) {
        if (no(one) || n < 0 || n > 100) {
            return f(Check.BEYOND);
        }
        return w.year + n > 9999 ? f(Check.STATE) : w.on(n).people.get(one).goods;
    }

    int living(int n) {
        if (n < 0 || n > 100) {
            return f(Check.BEYOND);
        }
        if (w.year + n > 9999) {
            return f(Check.STATE);
        }
        int set = 0;
        World then = w.on(n);
        for (int p = 0; p < then.people.size(); p++) {
            set |= then.people.get(p).living ? 1 << p : 0;
        }
        return set;
    }

    int rich(int n) {
        if (n < 0 || n > 100) {
            return f(Check.BEYOND);
        }
        if (w.year + n > 9999) {
            return f(Check.STATE);
        }
        int rich = w.on(n).richest(-1);
        return rich == -1 ? f(Check.NONE) : rich;
    }

    int when(int one) {
        if (no(one)) {
            return f(Check.BEYOND);
        }
        if (w.year > 9899) {
            return f(Check.STATE);
        }
        for (int n = 0; n <= 100; n++) {
            if (!w.on(n).people.get(one).living) {
                return n;
            }
        }
        return f(Check.NONE);
    }

    int gets(int one) {
        if (no(one)) {
            return f(Check.BEYOND);
        }
        if (w.year > 9899 || !one(one).living) {
            return f(Check.STATE);
        }
        World then = w.copy();
        for (int n = 1; n <= 100; n++) {
            int heir = then.year()[one];
            if (heir != -2) {
                return heir;
            }
        }
        return f(Check.NONE);
    }

    int change(int one, int of) {
        if (no(one) || no(of) || one == of) {
            return f(Check.BEYOND);
        }
        if (!one(one).living || w.heir(of) == one) {
            return f(Check.STATE);
        }
        for (int code = 0; code < 90; code++) {
            World then = w.copy();
            if (code % 10 > 3 || one(one).ways[code / 10] == code % 10) {
                continue;
            }
            then.people.get(one).ways[code / 10] = code % 10;
            if (then.heir(of) == one) {
                return code;
            }
        }
        return f(Check.NONE);
    }

    /** By weights, greatest first: not by all sets of marks, as LikestHeir does it. */
    int fewest(int one, int of) {
        if (no(one) || no(of) || one == of) {
            return f(Check.BEYOND);
        }
        if (!one(one).living) {
            return f(Check.STATE);
        }
        World then = w.copy();
        for (int n = 0; n <= 9; n++) {
            if (then.heir(of) == one) {
                return n;
            }
            int gain = -1;
            for (int m = 0; m < 9; m++) {
                if (!then.isSame(of, one, m) && (gain == -1 || w.weighs[m] > w.weighs[gain])) {
                    gain = m;
                }
            }
            if (gain == -1) {
                return f(Check.NONE);
            }
            then.people.get(one).ways[gain] = one(of).ways[gain];
        }
        return f(Check.NONE);
    }

    int worth(int one, int mark) {
        if (no(one) || mark < 0 || mark > 8) {
            return f(Check.BEYOND);
        }
        World then = w.copy();
        int[] ways = then.people.get(one).ways;
        ways[mark] = ways[mark] == 3 ? 0 : ways[mark] + 1;
        return w.expected(one) - then.expected(one);
    }

    int best(int one) {
        if (no(one)) {
            return f(Check.BEYOND);
        }
        if (!one(one).living) {
            return f(Check.STATE);
        }
        int best = -1;
        int most = -1;
        for (int code = 0; code < 90; code++) {
            if (code % 10 > 3) {
                continue;
            }
            World then = w.copy();
            then.people.get(one).ways[code / 10] = code % 10;
            if (then.expected(one) > most) {
                most = then.expected(one);
                best = code;
            }
        }
        return best;
    }

    int steer(int one, int to) {
        if (no(one) || no(to) || one == to) {
            return f(Check.BEYOND);
        }
        if (!one(to).living || w.heir(one) == to) {
            return f(Check.STATE);
        }
        for (int code = 0; code < 90; code++) {
            World then = w.copy();
            if (code % 10 > 3 || one(one).ways[code / 10] == code % 10) {
                continue;
            }
            then.people.get(one).ways[code / 10] = code % 10;
            if (then.heir(one) == to) {
                return code;
            }
        }
        return f(Check.NONE);
    }

    int kind(int one, int n) {
        if (no(one) || n < 1 || n > 100) {
            return f(Check.BEYOND);
        }
        if (w.year + n > 9999) {
            return f(Check.STATE);
        }
        int best = -1;
        int most = -1;
        for (int k = 0; k < 6; k++) {
            World then = w.copy();
            then.people.get(one).kind = k;
            int goods = then.on(n).people.get(one).goods;
            if (goods > most) {
                most = goods;
                best = k;
            }
        }
        return best;
    }

    int fair(int n) {
        if (n < 1 || n > 100) {
            return f(Check.BEYOND);
        }
        if (w.year + n > 9999) {
            return f(Check.STATE);
        }
        int best = -1;
        int least = 0;
        for (int law = 0; law < 3; law++) {
            World then = w.copy();
            then.law = law;
            then = then.on(n);
            int rich = then.richest(-1);
            int goods = rich == -1 ? 0 : then.people.get(rich).goods;
            if (best == -1 || goods < least) {
                best = law;
                least = goods;
            }
        }
        return best;
    }

    int ways(int one, int to) {
        if (no(one) || no(to) || one == to) {
            return f(Check.BEYOND);
        }
        if (!one(to).living) {
            return f(Check.STATE);
        }
        World then = w.copy();
        int n = 0;
        for (int code = 0; code < 4096; code++) {
            int c = code;
            for (int m = 0; m < 6; m++) {
                then.people.get(one).ways[m] = c % 4;
                c /= 4;
            }
            n += then.heir(one) == to ? 1 : 0;
        }
        return n;
    }

    int feed(int bytes, int n) {
        if (n < 1 || n > 4) {
            return f(Check.BEYOND);
        }
        if (tape.length() + n > 120) {
            return f(Check.FULL);
        }
        byte[] four = {(byte) (bytes >>> 24), (byte) (bytes >>> 16), (byte) (bytes >>> 8), (byte) bytes};
        for (int i = 4 - n; i < 4; i++) {
            tape.append((char) (four[i] & 255));
        }
        return tape.length();
    }

    int wipe() {
        int had = tape.length();
        tape.setLength(0);
        return had;
    }

    int valley() {
        World then = w.copy();
        int answer = new ModelText(tape.toString(), then).items();
        if (answer >= 0) {
            w = then;
        }
        tape.setLength(0);
        return answer;
    }

    int sheet(int s, int b, int n) {
        if (s < 0 || s > 3 || b != 0 && b != 8 && b != 16 && b != 64) {
            return f(Check.BEYOND);
        }
        if (n < 0) {
            return f(Check.SIZE);
        }
        if (n > 40) {
            return f(Check.BEYOND);
        }
        bits[s] = b;
        sheets[s] = b == 0 ? null : new long[n];
        return b == 0 ? 0 : n;
    }

    private long cut(int s, long v) {
        long mod = bits[s] == 64 ? 0 : 1L << bits[s];
        if (mod == 0) {
            return v;
        }
        long low = Math.floorMod(v, mod);
        return low >= mod / 2 ? low - mod : low;
    }

    long write(int s, int i, long v) {
        if (s < 0 || s > 3) {
            return f(Check.BEYOND);
        }
        if (sheets[s] == null) {
            return f(Check.MISSING);
        }
        if (i < 0 || i >= sheets[s].length) {
            return f(Check.BEYOND);
        }
        long was = sheets[s][i];
        sheets[s][i] = cut(s, v);
        return was;
    }

    int copy(int s, int from, int t, int to, int n) {
        if (s < 0 || s > 3 || t < 0 || t > 3) {
            return f(Check.BEYOND);
        }
        if (sheets[s] == null || sheets[t] == null) {
            return f(Check.MISSING);
        }
        if (bits[s] != bits[t]) {
            return f(Check.KIND);
        }
        if (from < 0 || to < 0 || n < 0 || (long) from + n > sheets[s].length
                || (long) to + n > sheets[t].length) {
            return f(Check.BEYOND);
        }
        long[] were = sheets[s].clone();
        for (int i = 0; i < n; i++) {
            sheets[t][to + i] = were[from + i];
        }
        return n;
    }

    int lays(int s, int one) {
        if (s < 0 || s > 3) {
            return f(Check.BEYOND);
        }
        if (sheets[s] == null) {
            return f(Check.MISSING);
        }
        if (no(one)) {
            return f(Check.BEYOND);
        }
        int came = 0;
        for (int m = 0; m < 9 && m < sheets[s].length; m++) {
            if (sheets[s][m] >= 0 && sheets[s][m] <= 3) {
                one(one).ways[m] = (int) sheets[s][m];
                came++;
            }
        }
        return came;
    }

    int book(int s, int n) {
        if (s < 0 || s > 3) {
            return f(Check.BEYOND);
        }
        if (sheets[s] == null) {
            return f(Check.MISSING);
        }
        if (n < 0 || n > 100) {
            return f(Check.BEYOND);
        }
        if (w.year + n > 9999) {
            return f(Check.STATE);
        }
        World then = w.on(n);
        int p = 0;
        while (p < then.people.size() && p < sheets[s].length) {
            sheets[s][p] = then.heir(p);
            p++;
        }
        return p;
    }

    int read(int s) {
        if (s < 0 || s > 3) {
            return f(Check.BEYOND);
        }
        if (sheets[s] == null) {
            return f(Check.MISSING);
        }
        int heir = -1;
        int most = 0;
        for (int p = 0; p < w.people.size(); p++) {
            if (!one(p).living) {
                continue;
            }
            int like = 0;
            for (int m = 0; m < 9 && m < sheets[s].length; m++) {
                long way = sheets[s][m];
                boolean known = way >= 0 && way <= 3;
                like += known && (one(p).ways[m] == way || m == 8 && one(p).kind == 4) ? w.weighs[m] : 0;
            }
            if (heir == -1 || like > most || like == most && one(p).age > one(heir).age) {
                heir = p;
                most = like;
            }
        }
        return heir == -1 ? f(Check.NONE) : heir;
    }

    int image() {
        image = w.copy();
        return 1;
    }

    int undo() {
        if (image == null) {
            return f(Check.NONE);
        }
        w = image.copy();
        return w.people.size();
    }

    int tear() {
        int had = image == null ? 0 : 1;
        image = null;
        return had;
    }

    int count(int what) {
        int weighs = 0;
        for (int v : w.weighs) {
            weighs += v;
        }
        int ages = 0;
        for (One o : w.people) {
            ages += o.living ? o.age : 0;
        }
        int[] all = {w.people.size(), tape.length(), weighs, ages};
        return what < 0 || what > 3 ? f(Check.BEYOND) : all[what];
    }

    int status(int which) {
        if (which < -1 || which > 6) {
            return f(Check.BEYOND);
        }
        int all = 0;
        for (int n : found) {
            all += n;
        }
        return which == -1 ? all : found[which];
    }
}
