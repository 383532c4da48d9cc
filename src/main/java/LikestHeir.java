import java.util.Arrays;

/** A valley in which what one leaves goes to the one among the living who is most like them. */
public final class LikestHeir {
    private static final int BEYOND = -1000000001;
    private static final int FULL = -1000000002;
    private static final int KIND = -1000000003;
    private static final int NONE = -1000000004;
    private static final int STATE = -1000000005;
    private static final int MISSING = -1000000006;
    private static final int SIZE = -1000000007;
    private static final int FINDINGS = 7;

    private static final int NOBODY = -1;
    private static final int MOST_PEOPLE = 12;
    private static final int MARKS = 9;
    private static final int ALL_MARKS = (1 << MARKS) - 1;
    private static final int WAYS = 4;
    private static final int MOST_WEIGHT = 9;
    private static final int MOST_COST = 99;
    private static final int MOST_AGE = 120;
    private static final int MOST_GOODS = 999999;
    private static final int LAST_LAW = 2;
    private static final int LAST_YEAR = 9999;
    private static final int FARTHEST = 100;
    private static final int TRIED_MARKS = 6;
    private static final int SHEETS = 4;

    private static final int PERSON = 0;
    private static final int COPIER = 1;
    private static final int SHUNNER = 2;
    private static final int KIND_ONE = 3;
    private static final int SWORN = 4;
    private static final int TWIN = 5;
    private static final int LAST_KIND = 5;
    private static final int[] KIND_ABOVE = {NOBODY, PERSON, PERSON, PERSON, COPIER, KIND_ONE};

    private static final int WHAT_KIND = 0;
    private static final int WHAT_AGE = 1;
    private static final int WHAT_GOODS = 2;
    private static final int WHAT_TERM = 3;
    private static final int WHAT_CHILD = 4;
    private static final int WHAT_LIVING = 5;
    private static final int WHAT_AIM = 6;

    private final Valley valley = new Valley();
    private final Valley kept = new Valley();
    /** What is only asked about is tried here, so that no question makes new rows. */
    private final Valley trial = new Valley();
    private final TextReader reader = new TextReader();
    private final Sheet[] sheets = new Sheet[SHEETS];
    private final int[] tally = new int[FINDINGS];
    private boolean isKept;

    public LikestHeir() {
        for (int s = 0; s < SHEETS; s++) {
            sheets[s] = new Sheet();
        }
    }

    // ---- marks, people

    public int mark(int mark, int what, int v) {
        if (!isWithin(mark, 0, MARKS - 1)) {
            return tell(BEYOND);
        }
        if (what == 0 && isWithin(v, 0, MOST_WEIGHT)) {
            return valley.putWeight(mark, v);
        }
        if (what == 1 && isWithin(v, 0, MOST_COST)) {
            return exchange(valley.costs, mark, v);
        }
        return tell(BEYOND);
    }

    public int let(int v) {
        if (!isWithin(v, 0, LAST_LAW)) {
            return tell(BEYOND);
        }
        int was = valley.law;
        valley.law = v;
        return was;
    }

    public int person(int kind, int age) {
        if (!isKind(kind) || !isWithin(age, 0, MOST_AGE)) {
            return tell(BEYOND);
        }
        int one = valley.addOne(kind, age);
        return one == NOBODY ? tell(FULL) : one;
    }

    public int of(int one, int what) {
        if (!isOne(one)) {
            return tell(BEYOND);
        }
        switch (what) {
            case WHAT_KIND: return valley.kinds[one];
            case WHAT_AGE: return valley.ages[one];
            case WHAT_GOODS: return valley.goods[one];
            case WHAT_TERM: return valley.terms[one];
            case WHAT_CHILD: return valley.children[one];
            case WHAT_LIVING: return valley.lives(one) ? 1 : 0;
            case WHAT_AIM: return valley.aimOf(one);
            default: return tell(BEYOND);
        }
    }

    public int set(int one, int what, int v) {
        if (!isOne(one) || !maySet(one, what, v)) {
            return tell(BEYOND);
        }
        switch (what) {
            case WHAT_AGE: return exchange(valley.ages, one, v);
            case WHAT_GOODS: return exchange(valley.goods, one, v);
            case WHAT_TERM: return exchange(valley.terms, one, v);
            case WHAT_CHILD: return exchange(valley.children, one, v);
            default: return valley.putLiving(one, v);
        }
    }

    public int way(int one, int mark) {
        if (!isOne(one) || !isWithin(mark, 0, MARKS - 1)) {
            return tell(BEYOND);
        }
        return wayIn(valley.looks[one], mark);
    }

    public int be(int one, int mark, int v) {
        if (!isOne(one) || !isWithin(mark, 0, MARKS - 1) || !isWithin(v, 0, WAYS - 1)) {
            return tell(BEYOND);
        }
        int look = exchange(valley.looks, one, withWay(valley.looks[one], mark, v));
        return wayIn(look, mark);
    }

    public int turn(int one, int kind) {
        if (!isOne(one) || !isKind(kind)) {
            return tell(BEYOND);
        }
        return exchange(valley.kinds, one, kind);
    }

    public int as(int one, int kind) {
        if (!isOne(one) || !isKind(kind)) {
            return tell(BEYOND);
        }
        if (!isUnder(valley.kinds[one], kind)) {
            return tell(KIND);
        }
        return valley.goods[one];
    }

    // ---- who is like whom

    public int like(int one, int other) {
        if (!areTwo(one, other)) {
            return tell(BEYOND);
        }
        return valley.likeness(one, other);
    }

    public int same(int one, int other) {
        if (!areTwo(one, other)) {
            return tell(BEYOND);
        }
        return MARKS - Integer.bitCount(unlike(valley.looks[one], valley.looks[other]));
    }

    public int heir(int one) {
        if (!isOne(one)) {
            return tell(BEYOND);
        }
        int heir = valley.heirFor(one);
        return heir == NOBODY ? tell(NONE) : heir;
    }

    public int heirOf(int one) {
        return isOne(one) ? valley.leaversTo(one) : tell(BEYOND);
    }

    public int watched(int one) {
        return isOne(one) ? valley.watchersOf(one) : tell(BEYOND);
    }

    public int changes(int one) {
        if (!isOne(one)) {
            return tell(BEYOND);
        }
        int plan = valley.lives(one) ? valley.planOf(one) : NOBODY;
        return plan == NOBODY ? tell(NONE) : plan / 10;
    }

    // ---- years

    public int years(int n) {
        if (!isWithin(n, 1, FARTHEST)) {
            return tell(BEYOND);
        }
        if (isTooLate(n)) {
            return tell(STATE);
        }
        return valley.goYears(n);
    }

    public int dies(int one) {
        if (!isOne(one)) {
            return tell(BEYOND);
        }
        if (!valley.lives(one)) {
            return tell(STATE);
        }
        return valley.letDie(one);
    }

    public int now(int what) {
        switch (what) {
            case 0: return valley.year;
            case 1: return valley.law;
            case 2: return Integer.bitCount(valley.living);
            case 3: return valley.sumOf(valley.goods, valley.living);
            default: return tell(BEYOND);
        }
    }

    // ---- on

    public int on(int one, int n) {
        if (!isOne(one) || !isWithin(n, 0, FARTHEST)) {
            return tell(BEYOND);
        }
        if (isTooLate(n)) {
            return tell(STATE);
        }
        trial.takeFrom(valley);
        trial.goYears(n);
        return trial.goods[one];
    }

    public int living(int n) {
        if (!isWithin(n, 0, FARTHEST)) {
            return tell(BEYOND);
        }
        if (isTooLate(n)) {
            return tell(STATE);
        }
        trial.takeFrom(valley);
        trial.goYears(n);
        return trial.living;
    }

    public int rich(int n) {
        if (!isWithin(n, 0, FARTHEST)) {
            return tell(BEYOND);
        }
        if (isTooLate(n)) {
            return tell(STATE);
        }
        trial.takeFrom(valley);
        trial.goYears(n);
        int richest = trial.richestBut(NOBODY);
        return richest == NOBODY ? tell(NONE) : richest;
    }

    public int when(int one) {
        if (!isOne(one)) {
            return tell(BEYOND);
        }
        if (isTooLate(FARTHEST)) {
            return tell(STATE);
        }
        if (!valley.lives(one)) {
            return 0;
        }
        trial.takeFrom(valley);
        trial.goYears(FARTHEST);
        return trial.lives(one) ? tell(NONE) : trial.deathYears[one] - valley.year;
    }

    public int gets(int one) {
        if (!isOne(one)) {
            return tell(BEYOND);
        }
        if (!valley.lives(one) || isTooLate(FARTHEST)) {
            return tell(STATE);
        }
        trial.takeFrom(valley);
        trial.goYears(FARTHEST);
        return trial.lives(one) ? tell(NONE) : trial.gotBy[one];
    }

    // ---- what to change

    public int change(int one, int of) {
        if (!areTwo(one, of)) {
            return tell(BEYOND);
        }
        if (!valley.lives(one) || valley.heirFor(of) == one) {
            return tell(STATE);
        }
        int step = leastStep(one, of, one);
        return step == NOBODY ? tell(NONE) : step;
    }

    public int fewest(int one, int of) {
        if (!areTwo(one, of)) {
            return tell(BEYOND);
        }
        if (!valley.lives(one)) {
            return tell(STATE);
        }
        trial.takeFrom(valley);
        int fewest = MARKS + 1;
        for (int marks = 0; marks <= ALL_MARKS; marks++) {
            trial.looks[one] = copied(valley.looks[one], valley.looks[of], marks);
            if (trial.heirFor(of) == one) {
                fewest = Math.min(fewest, Integer.bitCount(marks));
            }
        }
        return fewest > MARKS ? tell(NONE) : fewest;
    }

    public int worth(int one, int mark) {
        if (!isOne(one) || !isWithin(mark, 0, MARKS - 1)) {
            return tell(BEYOND);
        }
        int look = valley.looks[one];
        trial.takeFrom(valley);
        trial.looks[one] = withWay(look, mark, nextWay(wayIn(look, mark)));
        return valley.expectedBy(one) - trial.expectedBy(one);
    }

    public int best(int one) {
        if (!isOne(one)) {
            return tell(BEYOND);
        }
        if (!valley.lives(one)) {
            return tell(STATE);
        }
        trial.takeFrom(valley);
        int best = 0;
        int most = -1;
        for (int mark = 0; mark < MARKS; mark++) {
            for (int way = 0; way < WAYS; way++) {
                trial.looks[one] = withWay(valley.looks[one], mark, way);
                int goods = trial.expectedBy(one);
                if (goods > most) {
                    most = goods;
                    best = 10 * mark + way;
                }
            }
        }
        return best;
    }

    public int steer(int one, int to) {
        if (!areTwo(one, to)) {
            return tell(BEYOND);
        }
        if (!valley.lives(to) || valley.heirFor(one) == to) {
            return tell(STATE);
        }
        int step = leastStep(one, one, to);
        return step == NOBODY ? tell(NONE) : step;
    }

    public int kind(int one, int n) {
        if (!isOne(one) || !isWithin(n, 1, FARTHEST)) {
            return tell(BEYOND);
        }
        if (isTooLate(n)) {
            return tell(STATE);
        }
        int best = PERSON;
        int most = -1;
        for (int kind = 0; kind <= LAST_KIND; kind++) {
            trial.takeFrom(valley);
            trial.kinds[one] = kind;
            trial.goYears(n);
            if (trial.goods[one] > most) {
                most = trial.goods[one];
                best = kind;
            }
        }
        return best;
    }

    public int fair(int n) {
        if (!isWithin(n, 1, FARTHEST)) {
            return tell(BEYOND);
        }
        if (isTooLate(n)) {
            return tell(STATE);
        }
        int best = 0;
        int least = MOST_GOODS + 1;
        for (int law = 0; law <= LAST_LAW; law++) {
            trial.takeFrom(valley);
            trial.law = law;
            trial.goYears(n);
            int richest = trial.richestBut(NOBODY);
            int goods = richest == NOBODY ? 0 : trial.goods[richest];
            if (goods < least) {
                least = goods;
                best = law;
            }
        }
        return best;
    }

    public int ways(int one, int to) {
        if (!areTwo(one, to)) {
            return tell(BEYOND);
        }
        if (!valley.lives(to)) {
            return tell(STATE);
        }
        trial.takeFrom(valley);
        int tried = (1 << TRIED_MARKS) - 1;
        int rest = copied(valley.looks[one], 0, tried);
        int found = 0;
        for (int low = 0; low <= tried; low++) {
            for (int high = 0; high <= tried; high++) {
                trial.looks[one] = rest | low | high << MARKS;
                if (trial.heirFor(one) == to) {
                    found++;
                }
            }
        }
        return found;
    }

    // ---- the text

    public int feed(int bytes, int n) {
        if (!isWithin(n, 1, 4)) {
            return tell(BEYOND);
        }
        if (!reader.tape.hasRoom(n)) {
            return tell(FULL);
        }
        for (int i = n - 1; i >= 0; i--) {
            reader.tape.append(bytes >> 8 * i);
        }
        return reader.tape.length;
    }

    public int wipe() {
        return reader.tape.clear();
    }

    public int valley() {
        trial.takeFrom(valley);
        int items = reader.readItems(trial);
        if (items > 0) {
            valley.takeFrom(trial);
        }
        reader.tape.clear();
        return items;
    }

    // ---- sheets

    public int sheet(int s, int bits, int n) {
        Sheet sheet = sheetAt(s);
        if (sheet == null || bits != 0 && bits != 8 && bits != 16 && bits != 64) {
            return tell(BEYOND);
        }
        if (n < 0) {
            return tell(SIZE);
        }
        if (n > Sheet.MOST_NUMBERS) {
            return tell(BEYOND);
        }
        return sheet.begin(bits, n);
    }

    public long write(int s, int i, long v) {
        Sheet sheet = sheetAt(s);
        if (sheet == null) {
            return tell(BEYOND);
        }
        if (sheet.isMissing()) {
            return tell(MISSING);
        }
        if (!isWithin(i, 0, sheet.size - 1)) {
            return tell(BEYOND);
        }
        return sheet.put(i, v);
    }

    public int copy(int s, int from, int t, int to, int n) {
        Sheet source = sheetAt(s);
        Sheet target = sheetAt(t);
        if (source == null || target == null) {
            return tell(BEYOND);
        }
        if (source.isMissing() || target.isMissing()) {
            return tell(MISSING);
        }
        if (source.bits != target.bits) {
            return tell(KIND);
        }
        if (!source.hasRange(from, n) || !target.hasRange(to, n)) {
            return tell(BEYOND);
        }
        System.arraycopy(source.numbers, from, target.numbers, to, n);
        return n;
    }

    public int lays(int s, int one) {
        Sheet sheet = sheetAt(s);
        if (sheet == null) {
            return tell(BEYOND);
        }
        if (sheet.isMissing()) {
            return tell(MISSING);
        }
        if (!isOne(one)) {
            return tell(BEYOND);
        }
        int told = sheet.marksTold();
        valley.looks[one] = copied(valley.looks[one], sheet.lookTold(), told);
        return Integer.bitCount(told);
    }

    public int book(int s, int n) {
        Sheet sheet = sheetAt(s);
        if (sheet == null) {
            return tell(BEYOND);
        }
        if (sheet.isMissing()) {
            return tell(MISSING);
        }
        if (!isWithin(n, 0, FARTHEST)) {
            return tell(BEYOND);
        }
        if (isTooLate(n)) {
            return tell(STATE);
        }
        trial.takeFrom(valley);
        trial.goYears(n);
        int rows = Math.min(trial.people, sheet.size);
        for (int one = 0; one < rows; one++) {
            sheet.put(one, trial.heirFor(one));
        }
        return rows;
    }

    public int read(int s) {
        Sheet sheet = sheetAt(s);
        if (sheet == null) {
            return tell(BEYOND);
        }
        if (sheet.isMissing()) {
            return tell(MISSING);
        }
        trial.takeFrom(valley);
        int told = sheet.marksTold();
        for (int mark = 0; mark < MARKS; mark++) {
            if ((told >> mark & 1) == 0) {
                trial.putWeight(mark, 0);
            }
        }
        int heir = trial.heirOfStranger(sheet.lookTold());
        return heir == NOBODY ? tell(NONE) : heir;
    }

    // ---- images

    public int image() {
        kept.takeFrom(valley);
        isKept = true;
        return 1;
    }

    public int undo() {
        if (!isKept) {
            return tell(NONE);
        }
        valley.takeFrom(kept);
        return valley.people;
    }

    public int tear() {
        int had = isKept ? 1 : 0;
        isKept = false;
        return had;
    }

    public int count(int what) {
        switch (what) {
            case 0: return valley.people;
            case 1: return reader.tape.length;
            case 2: return valley.weightOfAll();
            case 3: return valley.sumOf(valley.ages, valley.living);
            default: return tell(BEYOND);
        }
    }

    public int status(int which) {
        if (isWithin(which, 0, FINDINGS - 1)) {
            return tally[which];
        }
        if (which != -1) {
            return tell(BEYOND);
        }
        int all = 0;
        for (int i = 0; i < FINDINGS; i++) {
            all += tally[i];
        }
        return all;
    }

    // ---- helpers

    /** Every finding goes through here, so that status() misses none. */
    private int tell(int finding) {
        int which = BEYOND - finding;
        if (isWithin(which, 0, FINDINGS - 1)) {
            tally[which]++;
        }
        return finding;
    }

    private boolean isOne(int one) {
        return isWithin(one, 0, valley.people - 1);
    }

    private boolean areTwo(int one, int other) {
        return one != other && isOne(one) && isOne(other);
    }

    private boolean isTooLate(int n) {
        return valley.year + n > LAST_YEAR;
    }

    private boolean maySet(int one, int what, int v) {
        switch (what) {
            case WHAT_AGE: return isWithin(v, 0, MOST_AGE);
            case WHAT_GOODS: return isWithin(v, 0, MOST_GOODS);
            case WHAT_TERM: return isWithin(v, 1, MOST_AGE);
            case WHAT_CHILD: return v == NOBODY || areTwo(one, v);
            case WHAT_LIVING: return isWithin(v, 0, 1);
            default: return false;
        }
    }

    private Sheet sheetAt(int s) {
        return isWithin(s, 0, SHEETS - 1) ? sheets[s] : null;
    }

    /**
     * Ten times the least mark of one, and its way, by which the wanted one becomes the owner's heir.
     * One's own ways need no leaving out: as things are, the wanted one isn't the heir.
     */
    private int leastStep(int one, int owner, int wanted) {
        trial.takeFrom(valley);
        for (int mark = 0; mark < MARKS; mark++) {
            for (int way = 0; way < WAYS; way++) {
                trial.looks[one] = withWay(valley.looks[one], mark, way);
                if (trial.heirFor(owner) == wanted) {
                    return 10 * mark + way;
                }
            }
        }
        return NOBODY;
    }

    private static boolean isWithin(int v, int least, int most) {
        return v >= least && v <= most;
    }

    private static boolean isKind(int kind) {
        return isWithin(kind, 0, LAST_KIND);
    }

    private static boolean isUnder(int kind, int above) {
        int k = kind;
        for (int step = 0; step <= LAST_KIND && isKind(k); step++) {
            if (k == above) {
                return true;
            }
            k = KIND_ABOVE[k];
        }
        return false;
    }

    private static int exchange(int[] row, int i, int v) {
        if (!isWithin(i, 0, row.length - 1)) {
            return NOBODY;
        }
        int was = row[i];
        row[i] = v;
        return was;
    }

    private static int nextWay(int way) {
        return (way + 1) % WAYS;
    }

    // A LOOK is the ways of all nine marks in one int: the low bits of the ways in bits 0 to 8, the
    // high bits in bits 9 to 17. So two looks are compared at once, as a set of marks, which matters
    // where thousands of looks, or hundreds of years, are tried in one call.

    private static int wayIn(int look, int mark) {
        return look >> mark & 1 | (look >> mark + MARKS & 1) << 1;
    }

    private static int withWay(int look, int mark, int way) {
        int low = (way & 1) << mark;
        int high = (way >> 1 & 1) << mark + MARKS;
        return copied(look, low | high, 1 << mark);
    }

    /** A look that is the model's in a set of marks, and stays as it is in the others. */
    private static int copied(int look, int model, int marks) {
        int bits = marks | marks << MARKS;
        return look & ~bits | model & bits;
    }

    private static int unlike(int look, int other) {
        int bits = look ^ other;
        return (bits | bits >> MARKS) & ALL_MARKS;
    }

    private static int leastOf(int marks) {
        for (int mark = 0; mark < MARKS; mark++) {
            if ((marks >> mark & 1) != 0) {
                return mark;
            }
        }
        return NOBODY;
    }

    /** All that section 1 of the document tells. */
    private static final class Valley {
        private static final int FIRST_WEIGHT = 1;
        private static final int FIRST_COST = 2;
        private static final int FIRST_GOODS = 10;
        private static final int FIRST_TERM = 70;
        private static final int LAW_OF_CHILDREN = 1;
        private static final int LAW_OF_HALVES = 2;
        private static final int CHILD_WEIGHS = 5;
        private static final int OATH = 1 << 8;
        private static final int LOWER_MARKS = 5;
        private static final int LOWER_SETS = 1 << LOWER_MARKS;
        private static final int UPPER_SETS = 1 << MARKS - LOWER_MARKS;
        /** The row behind the people's: one who isn't of the valley, but whose heir is asked for. */
        private static final int STRANGER = MOST_PEOPLE;

        final int[] weights = new int[MARKS];
        final int[] costs = new int[MARKS];
        /** What each set of marks 0 to 4, and of marks 5 to 8, weighs: so no likeness adds nine up. */
        final int[] lowerSums = new int[LOWER_SETS];
        final int[] upperSums = new int[UPPER_SETS];
        final int[] kinds = new int[MOST_PEOPLE];
        final int[] ages = new int[MOST_PEOPLE];
        final int[] goods = new int[MOST_PEOPLE];
        final int[] terms = new int[MOST_PEOPLE];
        final int[] children = new int[MOST_PEOPLE + 1];
        final int[] looks = new int[MOST_PEOPLE + 1];
        /** Who was the heir of each, as it died, and by which year: of those who died in goYears. */
        final int[] gotBy = new int[MOST_PEOPLE];
        final int[] deathYears = new int[MOST_PEOPLE];
        int people;
        int living;
        int law;
        int year;

        Valley() {
            Arrays.fill(costs, FIRST_COST);
            Arrays.fill(weights, FIRST_WEIGHT);
            sumWeights(lowerSums, 0);
            sumWeights(upperSums, LOWER_MARKS);
            children[STRANGER] = NOBODY;
        }

        void takeFrom(Valley other) {
            System.arraycopy(other.weights, 0, weights, 0, MARKS);
            System.arraycopy(other.costs, 0, costs, 0, MARKS);
            System.arraycopy(other.lowerSums, 0, lowerSums, 0, LOWER_SETS);
            System.arraycopy(other.upperSums, 0, upperSums, 0, UPPER_SETS);
            System.arraycopy(other.kinds, 0, kinds, 0, MOST_PEOPLE);
            System.arraycopy(other.ages, 0, ages, 0, MOST_PEOPLE);
            System.arraycopy(other.goods, 0, goods, 0, MOST_PEOPLE);
            System.arraycopy(other.terms, 0, terms, 0, MOST_PEOPLE);
            System.arraycopy(other.children, 0, children, 0, MOST_PEOPLE);
            System.arraycopy(other.looks, 0, looks, 0, MOST_PEOPLE);
            people = other.people;
            living = other.living;
            law = other.law;
            year = other.year;
        }

        int putWeight(int mark, int weight) {
            int was = exchange(weights, mark, weight);
            sumWeights(lowerSums, 0);
            sumWeights(upperSums, LOWER_MARKS);
            return was;
        }

        private void sumWeights(int[] sums, int firstMark) {
            for (int set = 1; set < sums.length; set++) {
                int mark = firstMark + leastOf(set);
                // The set without its least mark is a smaller number, so its sum stands already.
                sums[set] = sums[set & set - 1] + (isWithin(mark, 0, MARKS - 1) ? weights[mark] : 0);
            }
        }

        int weightOfAll() {
            return lowerSums[LOWER_SETS - 1] + upperSums[UPPER_SETS - 1];
        }

        /** The number of the new one, or NOBODY if there is no room. */
        int addOne(int kind, int age) {
            if (people >= MOST_PEOPLE) {
                return NOBODY;
            }
            int one = people;
            people++;
            kinds[one] = kind;
            ages[one] = age;
            goods[one] = FIRST_GOODS;
            terms[one] = FIRST_TERM;
            children[one] = NOBODY;
            looks[one] = 0;
            living |= 1 << one;
            return one;
        }

        boolean lives(int one) {
            return (living >> one & 1) != 0;
        }

        int putLiving(int one, int v) {
            int was = living >> one & 1;
            living = living & ~(1 << one) | v << one;
            return was;
        }

        int sumOf(int[] row, int set) {
            int sum = 0;
            for (int one = 0; one < people; one++) {
                if ((set >> one & 1) != 0) {
                    sum += row[one];
                }
            }
            return sum;
        }

        int likeness(int one, int other) {
            int same = ALL_MARKS & ~unlike(looks[one], looks[other]);
            if (kinds[other] == SWORN) {
                same |= OATH;
            }
            int like = lowerSums[same & LOWER_SETS - 1] + upperSums[same >> LOWER_MARKS];
            return law == LAW_OF_CHILDREN && other == children[one] ? like + CHILD_WEIGHS : like;
        }

        int heirFor(int one) {
            int heir = NOBODY;
            int most = -1;
            int eldest = -1;
            for (int other = 0; other < people; other++) {
                if (other == one || !lives(other)) {
                    continue;
                }
                int like = likeness(one, other);
                if (like > most || like == most && ages[other] > eldest) {
                    heir = other;
                    most = like;
                    eldest = ages[other];
                }
            }
            return heir;
        }

        int heirOfStranger(int look) {
            looks[STRANGER] = look;
            return heirFor(STRANGER);
        }

        int leaversTo(int heir) {
            int set = 0;
            for (int one = 0; one < people; one++) {
                if (lives(one) && heirFor(one) == heir) {
                    set |= 1 << one;
                }
            }
            return set;
        }

        int expectedBy(int heir) {
            return sumOf(goods, leaversTo(heir));
        }

        int watchersOf(int model) {
            int set = 0;
            for (int one = 0; one < people; one++) {
                if (lives(one) && aimOf(one) == model) {
                    set |= 1 << one;
                }
            }
            return set;
        }

        int richestBut(int one) {
            int richest = NOBODY;
            int most = -1;
            for (int other = 0; other < people; other++) {
                if (other != one && lives(other) && goods[other] > most) {
                    richest = other;
                    most = goods[other];
                }
            }
            return richest;
        }

        int aimOf(int one) {
            int child = children[one];
            int livingChild = child != NOBODY && lives(child) ? child : NOBODY;
            switch (kinds[one]) {
                case COPIER:
                case SWORN: return richestBut(one);
                case KIND_ONE: return livingChild;
                case TWIN: return livingChild != NOBODY ? livingChild : heirFor(one);
                default: return NOBODY;
            }
        }

        /** Ten times the mark that one changes now, and the way it comes to; or NOBODY. */
        int planOf(int one) {
            boolean shuns = kinds[one] == SHUNNER;
            int model = shuns ? heirFor(one) : aimOf(one);
            if (model == NOBODY) {
                return NOBODY;
            }
            int marks = unlike(looks[one], looks[model]);
            if (shuns) {
                marks = ALL_MARKS & ~marks;
            }
            if (kinds[one] == SWORN) {
                marks &= ~OATH;
            }
            int mark = leastOf(marks);
            if (mark == NOBODY || goods[one] < costs[mark]) {
                return NOBODY;
            }
            int way = shuns ? nextWay(wayIn(looks[one], mark)) : wayIn(looks[model], mark);
            return 10 * mark + way;
        }

        /** How many die in these years. */
        int goYears(int n) {
            int dead = 0;
            for (int y = 0; y < n; y++) {
                for (int one = 0; one < people; one++) {
                    if (lives(one)) {
                        carryOut(one, planOf(one));
                    }
                }
                for (int one = 0; one < people; one++) {
                    if (lives(one)) {
                        ages[one] = Math.min(MOST_AGE, ages[one] + 1);
                    }
                }
                for (int one = 0; one < people; one++) {
                    if (lives(one) && ages[one] >= terms[one]) {
                        letDie(one);
                        deathYears[one] = year + 1;
                        dead++;
                    }
                }
                year++;
            }
            return dead;
        }

        private void carryOut(int one, int plan) {
            int mark = plan / 10;
            if (plan == NOBODY || !isWithin(mark, 0, MARKS - 1)) {
                return;
            }
            looks[one] = withWay(looks[one], mark, plan % 10);
            goods[one] -= costs[mark];
        }

        /** Who is its heir. */
        int letDie(int one) {
            living &= ~(1 << one);
            int heir = heirFor(one);
            int left = goods[one];
            goods[one] = 0;
            gotBy[one] = heir;
            if (heir == NOBODY) {
                return NOBODY;
            }
            int second = law == LAW_OF_HALVES ? heirWithout(one, heir) : NOBODY;
            int rest = 0;
            if (second != NOBODY) {
                rest = left / 2;
                give(second, rest);
            }
            give(heir, left - rest);
            return heir;
        }

        private int heirWithout(int one, int heir) {
            living &= ~(1 << heir);
            int second = heirFor(one);
            living |= 1 << heir;
            return second;
        }

        private void give(int one, int coins) {
            goods[one] = Math.min(MOST_GOODS, goods[one] + coins);
        }
    }

    private static final class Sheet {
        static final int MOST_NUMBERS = 40;

        final long[] numbers = new long[MOST_NUMBERS];
        int bits;
        int size;

        boolean isMissing() {
            return bits == 0;
        }

        int begin(int newBits, int n) {
            bits = newBits;
            size = newBits == 0 ? 0 : n;
            Arrays.fill(numbers, 0L);
            return size;
        }

        boolean hasRange(int from, int n) {
            return from >= 0 && n >= 0 && n <= size - from;
        }

        long put(int i, long v) {
            if (!isWithin(i, 0, size - 1)) {
                return 0;
            }
            long was = numbers[i];
            numbers[i] = bits == 8 ? (byte) v : bits == 16 ? (short) v : v;
            return was;
        }

        /** The marks for which a way stands here. */
        int marksTold() {
            int marks = 0;
            for (int mark = 0; mark < MARKS && mark < size; mark++) {
                if (numbers[mark] >= 0 && numbers[mark] < WAYS) {
                    marks |= 1 << mark;
                }
            }
            return marks;
        }

        /** The look that stands here; it means something in the marks told only. */
        int lookTold() {
            int look = 0;
            for (int mark = 0; mark < MARKS && mark < size; mark++) {
                look = withWay(look, mark, (int) (numbers[mark] & WAYS - 1));
            }
            return look;
        }
    }

    private static final class Tape {
        private static final int MOST_BYTES = 120;

        final byte[] bytes = new byte[MOST_BYTES];
        int length;

        boolean hasRoom(int n) {
            return n <= MOST_BYTES - length;
        }

        void append(int b) {
            if (hasRoom(1)) {
                bytes[length] = (byte) b;
                length++;
            }
        }

        int clear() {
            int had = length;
            length = 0;
            return had;
        }

        /** -1 (which is part of no token) where there is no byte. */
        int byteAt(int place) {
            return place >= 0 && place < length ? bytes[place] & 255 : -1;
        }
    }

    /** Reads the tape as the text of a valley into one that the caller takes or, at a fault, leaves. */
    private static final class TextReader {
        private static final int END = 0;
        private static final int WORD = 1;
        private static final int NUMBER = 2;
        private static final int SEMICOLON = 3;
        private static final int NO_TOKEN = 4;
        private static final int MOST_LIKE = 999999999;

        final Tape tape = new Tape();
        private int token;
        private int start;
        private int end;
        private int number;
        private boolean isFaulty;

        /** How many items, or -1 less the place of the fault, at which the reader then stands. */
        int readItems(Valley valley) {
            end = 0;
            isFaulty = false;
            nextToken();
            // No item is shorter than a byte, so there are never more of them than bytes.
            for (int items = 1; items <= Tape.MOST_BYTES; items++) {
                readItem(valley);
                if (!isFaulty && token == END) {
                    return items;
                }
                if (isFaulty || token != SEMICOLON) {
                    return -1 - start;
                }
                nextToken();
            }
            return -1 - start;
        }

        private void readItem(Valley valley) {
            int kind = kindHere();
            if (kind != NOBODY) {
                readPerson(valley, kind);
            } else if (isWord("mark")) {
                readMark(valley);
            } else if (isWord("law")) {
                nextToken();
                int law = takeNumber(0, LAST_LAW);
                if (!isFaulty) {
                    valley.law = law;
                }
            } else {
                isFaulty = true;
            }
        }

        private void readPerson(Valley valley, int kind) {
            int one = valley.addOne(kind, 0);
            if (one == NOBODY) {
                isFaulty = true;
                return;
            }
            nextToken();
            if (takesWord("like")) {
                int look = lookHere();
                valley.looks[one] = look;
                takeNumber(0, look == NOBODY ? NOBODY : MOST_LIKE);
            }
            if (takesWord("age")) {
                valley.ages[one] = takeNumber(0, MOST_AGE);
            }
            if (takesWord("goods")) {
                valley.goods[one] = takeNumber(0, MOST_GOODS);
            }
            if (takesWord("term")) {
                valley.terms[one] = takeNumber(1, MOST_AGE);
            }
            if (takesWord("child")) {
                valley.children[one] = takeNumber(0, one - 1);
            }
        }

        private void readMark(Valley valley) {
            nextToken();
            int mark = takeNumber(0, MARKS - 1);
            if (takesWord("weighs")) {
                int weight = takeNumber(0, MOST_WEIGHT);
                if (!isFaulty) {
                    valley.putWeight(mark, weight);
                }
            }
            if (takesWord("costs")) {
                exchange(valley.costs, mark, takeNumber(0, MOST_COST));
            }
        }

        /** A fault stops all taking, so that the reader stays at the first token that can't stand. */
        private boolean takesWord(String word) {
            if (isFaulty || !isWord(word)) {
                return false;
            }
            nextToken();
            return true;
        }

        private int takeNumber(int least, int most) {
            if (token != NUMBER || !isWithin(number, least, most)) {
                isFaulty = true;
                return NOBODY;
            }
            int taken = number;
            nextToken();
            return taken;
        }

        /** The look that the digits of this token tell from its end on, or NOBODY if one is no way. */
        private int lookHere() {
            int look = 0;
            for (int place = end - 1; place >= start; place--) {
                int mark = end - 1 - place;
                int way = tape.byteAt(place) - '0';
                if (!isWithin(way, 0, WAYS - 1)) {
                    return NOBODY;
                }
                if (mark < MARKS) {
                    look = withWay(look, mark, way);
                }
            }
            return look;
        }

        private int kindHere() {
            for (int kind = 0; kind <= LAST_KIND; kind++) {
                if (isWord(nameOf(kind))) {
                    return kind;
                }
            }
            return NOBODY;
        }

        private static String nameOf(int kind) {
            switch (kind) {
                case COPIER: return "copier";
                case SHUNNER: return "shunner";
                case KIND_ONE: return "kin";
                case SWORN: return "sworn";
                case TWIN: return "twin";
                default: return "person";
            }
        }

        private boolean isWord(String word) {
            if (token != WORD || end - start != word.length()) {
                return false;
            }
            for (int i = 0; i < word.length(); i++) {
                if (tape.byteAt(start + i) != word.charAt(i)) {
                    return false;
                }
            }
            return true;
        }

        private void nextToken() {
            start = end;
            while (start < tape.length && tape.byteAt(start) == ' ') {
                start++;
            }
            end = start;
            number = 0;
            int first = tape.byteAt(start);
            if (start >= tape.length) {
                token = END;
            } else if (isLetter(first)) {
                token = WORD;
                while (end < tape.length && isLetter(tape.byteAt(end))) {
                    end++;
                }
            } else if (isDigit(first)) {
                token = NUMBER;
                while (end < tape.length && isDigit(tape.byteAt(end))) {
                    // Any number above MOST_LIKE is too much everywhere, so it needn't be told exactly.
                    number = number > MOST_LIKE / 10 ? MOST_LIKE + 1 : 10 * number + tape.byteAt(end) - '0';
                    end++;
                }
            } else {
                token = first == ';' ? SEMICOLON : NO_TOKEN;
                end++;
            }
        }

        private static boolean isLetter(int b) {
            return b >= 'a' && b <= 'z';
        }

        private static boolean isDigit(int b) {
            return b >= '0' && b <= '9';
        }
    }
}
