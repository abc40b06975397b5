/** Names with few values each, constraints on rows of them, and the values that the constraints can keep. */
public final class TableChoices {
    public static final int NONE = -1, BAD = -2, FULL = -3, EMPTY = -4, KEPT = -5, FAILED = -100;

    private static final int MOST_NAMES = 6, MOST_VALUES = 6, MOST_CONSTRAINTS = 10, MOST_MARKS = 8;
    private static final int MOST_TUPLES = 20, MOST_STEPS = 30, STATES = 6;
    private static final int MOST_COST = 100, MOST_OF_MACHINE = 1000, MOST_SUM = 30;
    private static final int ALL_SETS = 63, STAR = 7;
    private static final int BY_CUT = 10, NEVER_THERE = 11;
    private static final int KIND_TABLE = 0, KIND_MACHINE = 1, KIND_ELEMENT = 2, KIND_ORDER = 3;
    private static final int KIND_SUM = 4, KIND_TALLY = 5, KIND_FIRST = 6;

    /** Every round but the last takes a value, and there are 36 of them: no run comes near this. */
    private static final int MOST_ROUNDS = 100;

    private final Choices now = new Choices();
    private final Choices[] marked = new Choices[MOST_MARKS];
    private final Constraint[] constraints = new Constraint[MOST_CONSTRAINTS];
    private final Places places = new Places();
    /** By name: the set that a search has come to, one value for each name that it has passed. */
    private final int[] chosen = new int[MOST_NAMES];
    private int names;
    private int constraintCount;
    private int markCount;
    private int latestRounds;

    public TableChoices() {
        for (int i = 0; i < MOST_MARKS; i++) {
            marked[i] = new Choices();
        }
    }

    public int clear() {
        int before = constraintCount;
        for (int i = 0; i < MOST_CONSTRAINTS; i++) {
            constraints[i] = null;
        }
        for (int name = 0; name < MOST_NAMES; name++) {
            now.domains[name] = 0;
        }
        names = 0;
        constraintCount = 0;
        markCount = 0;
        latestRounds = 0;
        return before;
    }

    public int name(int values) {
        if (!isIn(values, 1, MOST_VALUES)) {
            return BAD;
        }
        if (markCount > 0) {
            return KEPT;
        }
        if (names >= MOST_NAMES) {
            return FULL;
        }
        now.begin(names, values);
        names++;
        return names - 1;
    }

    public int table(int many, int row) {
        int refusal = refusalOfNew(isRow(many, row));
        return refusal != 0 ? refusal : add(new Table(many, row));
    }

    public int tuple(int constraint, int word) {
        Constraint one = constraintAt(constraint);
        if (one instanceof Table table && isWord(table.many, word, true)) {
            return table.put(word);
        }
        return BAD;
    }

    public int machine(int many, int row, int ends, int most) {
        boolean good = isRow(many, row) && isIn(ends, 0, ALL_SETS) && isIn(most, 0, MOST_OF_MACHINE);
        int refusal = refusalOfNew(good);
        return refusal != 0 ? refusal : add(new Machine(many, row, ends, most));
    }

    public int step(int constraint, int from, int value, int to, int cost) {
        boolean good = isState(from) && isValue(value) && isState(to) && isIn(cost, 0, MOST_COST);
        Constraint one = constraintAt(constraint);
        if (good && one instanceof Machine machine) {
            return machine.put(from, value, to, cost);
        }
        return BAD;
    }

    public int element(int many, int row) {
        int refusal = refusalOfNew(isRow(many, row) && many >= 3);
        return refusal != 0 ? refusal : add(new Element(many, row));
    }

    public int order(int many, int row, boolean strict) {
        int refusal = refusalOfNew(isRow(many, row) && (many & 1) == 0);
        return refusal != 0 ? refusal : add(new Order(many, row, strict));
    }

    public int sum(int many, int row, int low, int high) {
        int refusal = refusalOfNew(isRow(many, row) && areBounds(low, high, MOST_SUM));
        return refusal != 0 ? refusal : add(new Sum(many, row, low, high));
    }

    public int tally(int many, int row, int value, int low, int high) {
        boolean good = isRow(many, row) && isValue(value) && areBounds(low, high, MOST_NAMES);
        int refusal = refusalOfNew(good);
        return refusal != 0 ? refusal : add(new Tally(many, row, value, low, high));
    }

    public int first(int many, int row, int a, int b) {
        int refusal = refusalOfNew(isRow(many, row) && isValue(a) && isValue(b) && a != b);
        return refusal != 0 ? refusal : add(new First(many, row, a, b));
    }

    public int undo() {
        if (constraintCount <= 0) {
            return NONE;
        }
        constraintCount--;
        constraints[constraintCount] = null;
        return constraintCount;
    }

    public int cut(int name, int set) {
        if (!isName(name) || !isIn(set, 0, ALL_SETS)) {
            return BAD;
        }
        if ((now.domains[name] & set) == 0) {
            return EMPTY;
        }
        return now.keepOnly(name, set, BY_CUT, 0);
    }

    public int run() {
        int went = 0;
        for (int round = 1; round <= MOST_ROUNDS; round++) {
            latestRounds = round;
            int before = went;
            for (int i = 0; i < constraintCount; i++) {
                Constraint constraint = constraintAt(i);
                if (constraint == null) {
                    continue;
                }
                constraint.lay(now.domains, places);
                if (!constraint.keeps(places)) {
                    return FAILED - i;
                }
                went += takeNotKept(constraint, i, round);
            }
            if (went == before) {
                break;
            }
        }
        return went;
    }

    public int mark() {
        Choices room = markAt(markCount);
        if (room == null) {
            return FULL;
        }
        room.copy(now);
        markCount++;
        return markCount;
    }

    public int back() {
        Choices newest = markAt(markCount - 1);
        if (newest == null) {
            return NONE;
        }
        now.copy(newest);
        markCount--;
        return markCount;
    }

    public int domain(int name) {
        return isName(name) ? now.domains[name] : BAD;
    }

    public int why(int name, int value, int what) {
        if (!isName(name) || !isValue(value) || !isIn(what, 0, 1)) {
            return BAD;
        }
        int at = name * MOST_VALUES + value;
        return what == 0 ? now.reasons[at] : now.rounds[at];
    }

    public int allows(int constraint, int word) {
        Constraint one = constraintAt(constraint);
        if (one == null || !isWord(one.many, word, false)) {
            return BAD;
        }
        places.layWord(one.many, word);
        return one.keeps(places) ? 1 : 0;
    }

    public int told(int constraint, int what) {
        Constraint one = constraintAt(constraint);
        if (one == null) {
            return BAD;
        }
        switch (what) {
            case 0:
                return one.kind;
            case 1:
                return one.many;
            case 2:
                return one.row;
            case 3:
                return one.parts();
            case 4:
                one.lay(now.domains, places);
                return one.openWords(places);
            default:
                return BAD;
        }
    }

    public int least(int constraint) {
        Constraint one = constraintAt(constraint);
        if (one instanceof Machine machine) {
            machine.lay(now.domains, places);
            return machine.leastCost(places);
        }
        return BAD;
    }

    public int count() {
        return solutionsFrom(0);
    }

    public int next(int word) {
        if (word == NONE) {
            return solutionFrom(0, 0, 0, false);
        }
        if (!isWord(names, word, false)) {
            return BAD;
        }
        return solutionFrom(0, 0, word, true);
    }

    public int of(int what) {
        switch (what) {
            case 0:
                return names;
            case 1:
                return constraintCount;
            case 2:
                return markCount;
            case 3:
                return latestRounds;
            case 4:
                return valuesInAll();
            default:
                return BAD;
        }
    }

    private int valuesInAll() {
        int all = 0;
        for (int name = 0; name < MOST_NAMES; name++) {
            all += Integer.bitCount(now.domains[name]);
        }
        return all;
    }

    private Constraint constraintAt(int number) {
        return isIn(number, 0, constraintCount - 1) && number < MOST_CONSTRAINTS ? constraints[number] : null;
    }

    private Choices markAt(int number) {
        return isIn(number, 0, MOST_MARKS - 1) ? marked[number] : null;
    }

    /** 0 where a constraint may come; BAD goes ahead of FULL. */
    private int refusalOfNew(boolean good) {
        if (!good) {
            return BAD;
        }
        return constraintCount >= MOST_CONSTRAINTS ? FULL : 0;
    }

    private int add(Constraint constraint) {
        if (constraintCount >= MOST_CONSTRAINTS) {
            return FULL;
        }
        constraints[constraintCount] = constraint;
        constraintCount++;
        return constraintCount - 1;
    }

    private int takeNotKept(Constraint constraint, int number, int round) {
        int went = 0;
        for (int place = 0; place < constraint.many && place < MOST_NAMES; place++) {
            int name = digit(constraint.row, place);
            if (isName(name)) {
                went += now.keepOnly(name, places.kept[place], number, round);
            }
        }
        return went;
    }

    /** How many solutions go on from what is chosen for the names below this one. */
    private int solutionsFrom(int name) {
        if (!isName(name)) {
            return 1;
        }
        int set = setForChosen(name);
        if (name == names - 1) {
            return Integer.bitCount(set);
        }
        if (!isInSomeRow(name)) {
            // what comes behind does not depend on it, so it is counted once for all its values
            return Integer.bitCount(set) * solutionsFrom(name + 1);
        }
        int all = 0;
        for (int value = 0; value < MOST_VALUES; value++) {
            if (has(set, value)) {
                chosen[name] = 1 << value;
                all += solutionsFrom(name + 1);
            }
        }
        return all;
    }

    /** The first solution that goes on from a head; where that is the floor's own (tight), only one behind the floor. */
    private int solutionFrom(int name, int head, int floor, boolean tight) {
        if (!isName(name)) {
            return tight ? NONE : head;
        }
        int set = setForChosen(name);
        int low = tight ? digit(floor, name) : 0;
        for (int value = low; value < MOST_VALUES; value++) {
            if (has(set, value)) {
                chosen[name] = 1 << value;
                int found = solutionFrom(name + 1, head | value << 3 * name, floor, tight && value == low);
                if (found != NONE) {
                    return found;
                }
            }
        }
        return NONE;
    }

    /**
     * The values of a name that go with those chosen for the names below it. Only constraints that have no name
     * above it are asked: for these all other names are chosen, so each is asked once for all values of the name.
     */
    private int setForChosen(int name) {
        if (!isName(name)) {
            return 0;
        }
        int set = now.domains[name];
        for (int i = 0; i < constraintCount; i++) {
            Constraint constraint = constraintAt(i);
            if (constraint == null || constraint.highestName != name) {
                continue;
            }
            chosen[name] = set;
            constraint.lay(chosen, places);
            if (!constraint.keeps(places)) {
                return 0;
            }
            set = places.keptAt(constraint.highestPlace);
        }
        return set;
    }

    private boolean isInSomeRow(int name) {
        for (int i = 0; i < constraintCount; i++) {
            Constraint constraint = constraintAt(i);
            if (constraint != null && has(constraint.nameSet, name)) {
                return true;
            }
        }
        return false;
    }

    private boolean isName(int number) {
        return isIn(number, 0, names - 1) && number < MOST_NAMES;
    }

    private boolean isRow(int many, int row) {
        if (!isIn(many, 1, MOST_NAMES) || row >>> 3 * many != 0) {
            return false;
        }
        int seen = 0;
        for (int place = 0; place < many; place++) {
            int name = digit(row, place);
            if (!isName(name) || has(seen, name)) {
                return false;
            }
            seen |= 1 << name;
        }
        return true;
    }

    private static boolean isWord(int many, int word, boolean stars) {
        if (word >>> 3 * many != 0) {
            return false;
        }
        for (int place = 0; place < many; place++) {
            int value = digit(word, place);
            if (!isValue(value) && !(stars && value == STAR)) {
                return false;
            }
        }
        return true;
    }

    private static boolean isValue(int value) {
        return isIn(value, 0, MOST_VALUES - 1);
    }

    private static boolean isState(int state) {
        return isIn(state, 0, STATES - 1);
    }

    private static boolean areBounds(int low, int high, int most) {
        return isIn(low, 0, most) && isIn(high, low, most);
    }

    private static boolean isIn(int number, int low, int high) {
        return number >= low && number <= high;
    }

    private static int digit(int word, int place) {
        return word >>> 3 * place & 7;
    }

    private static boolean has(int set, int value) {
        return (set >>> value & 1) != 0;
    }

    /** What a mark keeps: all domains, and of each name and value the reason and the round. */
    private static final class Choices {
        final int[] domains = new int[MOST_NAMES];
        final int[] reasons = new int[MOST_NAMES * MOST_VALUES];
        final int[] rounds = new int[MOST_NAMES * MOST_VALUES];

        void begin(int name, int values) {
            if (name < 0 || name >= MOST_NAMES) {
                return;
            }
            domains[name] = (1 << values) - 1;
            for (int value = 0; value < MOST_VALUES; value++) {
                reasons[name * MOST_VALUES + value] = value < values ? NONE : NEVER_THERE;
                rounds[name * MOST_VALUES + value] = 0;
            }
        }

        void copy(Choices other) {
            System.arraycopy(other.domains, 0, domains, 0, MOST_NAMES);
            System.arraycopy(other.reasons, 0, reasons, 0, MOST_NAMES * MOST_VALUES);
            System.arraycopy(other.rounds, 0, rounds, 0, MOST_NAMES * MOST_VALUES);
        }

        /** How many values of the name went, as they are not in the set. */
        int keepOnly(int name, int set, int reason, int round) {
            if (name < 0 || name >= MOST_NAMES) {
                return 0;
            }
            int gone = domains[name] & ~set;
            if (gone == 0) {
                return 0;
            }
            for (int value = 0; value < MOST_VALUES; value++) {
                if (has(gone, value)) {
                    reasons[name * MOST_VALUES + value] = reason;
                    rounds[name * MOST_VALUES + value] = round;
                }
            }
            domains[name] &= set;
            return Integer.bitCount(gone);
        }
    }

    /** The places of the row that is looked at, and room to work in, made once for all calls of an object. */
    private static final class Places {
        /** Only states below this are remembered. ORDER alone has others, and comes but once to each of them. */
        private static final int REMEMBERED = 64;
        /** A step tells its states by three bits each: with room for eight no place's states can leave their row. */
        private static final int STATE_ROOM = 8;

        /** By place: the values that a word may have there. */
        final int[] open = new int[MOST_NAMES];
        /** By place: those of them that an allowed word has there. */
        final int[] kept = new int[MOST_NAMES];
        /** By place and state of a MACHINE: the least cost to come there, and to go from there to an end. */
        final int[] ahead = new int[(MOST_NAMES + 1) * STATE_ROOM];
        final int[] behind = new int[(MOST_NAMES + 1) * STATE_ROOM];

        private final int[] words = new int[MOST_NAMES * REMEMBERED];
        private final int[] knownSince = new int[MOST_NAMES * REMEMBERED];
        /** Counting up makes all that is remembered unknown, at no cost for each entry. */
        private int time;

        void layWord(int many, int word) {
            for (int place = 0; place < many && place < MOST_NAMES; place++) {
                open[place] = 1 << digit(word, place);
                kept[place] = 0;
            }
        }

        /** Where ahead and behind have the cost of a place (0 .. 6) and a state (0 .. 7). */
        static int costAt(int place, int state) {
            return place * STATE_ROOM + state;
        }

        int keptAt(int place) {
            return place >= 0 && place < MOST_NAMES ? kept[place] : 0;
        }

        void forget() {
            time++;
        }

        int recall(int place, int state) {
            return isRemembered(place, state) && knownSince[place * REMEMBERED + state] == time
                    ? words[place * REMEMBERED + state] : NONE;
        }

        void remember(int place, int state, int many) {
            if (isRemembered(place, state)) {
                words[place * REMEMBERED + state] = many;
                knownSince[place * REMEMBERED + state] = time;
            }
        }

        private static boolean isRemembered(int place, int state) {
            return isIn(place, 0, MOST_NAMES - 1) && isIn(state, 0, REMEMBERED - 1);
        }
    }

    /** It knows places alone: what is open at them is laid out before it is asked. */
    private abstract static class Constraint {
        final int kind;
        final int many;
        final int row;
        final int nameSet;
        final int highestName;
        final int highestPlace;

        Constraint(int kind, int many, int row) {
            int set = 0;
            int highest = 0;
            for (int place = 0; place < many && place < MOST_NAMES; place++) {
                set |= 1 << digit(row, place);
                if (digit(row, place) > digit(row, highest)) {
                    highest = place;
                }
            }
            this.kind = kind;
            this.many = many;
            this.row = row;
            this.nameSet = set;
            this.highestName = digit(row, highest);
            this.highestPlace = highest;
        }

        final void lay(int[] sets, Places places) {
            for (int place = 0; place < many && place < MOST_NAMES; place++) {
                int name = digit(row, place);
                places.open[place] = name < sets.length ? sets[name] : 0;
                places.kept[place] = 0;
            }
        }

        /** Whether it allows an open word; which values are kept then. */
        abstract boolean keeps(Places places);

        abstract int openWords(Places places);

        int parts() {
            return 0;
        }
    }

    private static final class Table extends Constraint {
        /** By place and value: the tuples that go with it, as bits, so that one look is for all tuples. */
        private final int[] fitting = new int[MOST_NAMES * MOST_VALUES];
        private int tuples;

        Table(int many, int row) {
            super(KIND_TABLE, many, row);
        }

        int put(int word) {
            if (tuples >= MOST_TUPLES) {
                return FULL;
            }
            for (int place = 0; place < many && place < MOST_NAMES; place++) {
                int wanted = digit(word, place);
                for (int value = 0; value < MOST_VALUES; value++) {
                    if (wanted == STAR || wanted == value) {
                        fitting[place * MOST_VALUES + value] |= 1 << tuples;
                    }
                }
            }
            tuples++;
            return tuples;
        }

        int parts() {
            return tuples;
        }

        boolean keeps(Places places) {
            int open = openTuples(places);
            if (open == 0) {
                return false;
            }
            for (int place = 0; place < many && place < MOST_NAMES; place++) {
                for (int value = 0; value < MOST_VALUES; value++) {
                    if (has(places.open[place], value) && (fitting[place * MOST_VALUES + value] & open) != 0) {
                        places.kept[place] |= 1 << value;
                    }
                }
            }
            return true;
        }

        int openWords(Places places) {
            return wordsFrom(0, openTuples(places), places);
        }

        /** A tuple has an open word, if each of its places has an open value. */
        private int openTuples(Places places) {
            int open = (1 << tuples) - 1;
            for (int place = 0; place < many && place < MOST_NAMES; place++) {
                int here = 0;
                for (int value = 0; value < MOST_VALUES; value++) {
                    if (has(places.open[place], value)) {
                        here |= fitting[place * MOST_VALUES + value];
                    }
                }
                open &= here;
            }
            return open;
        }

        /** Words are counted, not tuples: one word may go with several of them. */
        private int wordsFrom(int place, int tuplesLeft, Places places) {
            if (tuplesLeft == 0) {
                return 0;
            }
            if (place < 0 || place >= many || place >= MOST_NAMES) {
                return 1;
            }
            int all = 0;
            for (int value = 0; value < MOST_VALUES; value++) {
                if (has(places.open[place], value)) {
                    all += wordsFrom(place + 1, tuplesLeft & fitting[place * MOST_VALUES + value], places);
                }
            }
            return all;
        }
    }

    private static final class Machine extends Constraint {
        /** Above all costs, and so low that three of it can be added. */
        private static final int FAR = 1000000;

        private final int ends;
        private final int most;
        /** From, to and cost in one number each; those of one value stand together, from its start to the next one. */
        private final int[] steps = new int[MOST_STEPS];
        private final int[] starts = new int[MOST_VALUES + 1];

        Machine(int many, int row, int ends, int most) {
            super(KIND_MACHINE, many, row);
            this.ends = ends;
            this.most = most;
        }

        int put(int from, int value, int to, int cost) {
            int before = starts[MOST_VALUES];
            if (before >= MOST_STEPS) {
                return FULL;
            }
            if (!isValue(value)) {
                return BAD;
            }
            int at = starts[value + 1];
            for (int i = before; i > at && i > 0; i--) {
                steps[i] = steps[i - 1];
            }
            if (at >= 0 && at < MOST_STEPS) {
                steps[at] = from | to << 3 | cost << 6;
            }
            for (int i = value + 1; i <= MOST_VALUES; i++) {
                starts[i]++;
            }
            return starts[MOST_VALUES];
        }

        int parts() {
            return starts[MOST_VALUES];
        }

        boolean keeps(Places places) {
            if (leastCost(places) == NONE) {
                return false;
            }
            startAhead(places);
            for (int place = 0; place < many && place < MOST_NAMES; place++) {
                makeFar(places.ahead, place + 1);
                for (int value = 0; value < MOST_VALUES; value++) {
                    if (has(places.open[place], value) && goAhead(place, value, places) <= most) {
                        places.kept[place] |= 1 << value;
                    }
                }
            }
            return true;
        }

        int openWords(Places places) {
            if (leastCost(places) == NONE) {
                return 0;
            }
            startAhead(places);
            return wordsFrom(0, places);
        }

        /** Leaves the costs behind filled: going ahead adds them to its own. */
        int leastCost(Places places) {
            int last = Math.min(many, MOST_NAMES);
            for (int state = 0; state < STATES; state++) {
                places.behind[Places.costAt(last, state)] = has(ends, state) ? 0 : FAR;
            }
            for (int place = last - 1; place >= 0; place--) {
                makeFar(places.behind, place);
                for (int value = 0; value < MOST_VALUES; value++) {
                    if (has(places.open[place], value)) {
                        goBehind(place, value, places);
                    }
                }
            }
            return places.behind[0] <= most ? places.behind[0] : NONE;
        }

        /** Words are counted, not ways: one word may go several ways. */
        private int wordsFrom(int place, Places places) {
            if (place < 0 || place >= many || place >= MOST_NAMES) {
                return 1;
            }
            int all = 0;
            for (int value = 0; value < MOST_VALUES; value++) {
                if (has(places.open[place], value)) {
                    makeFar(places.ahead, place + 1);
                    if (goAhead(place, value, places) <= most) {
                        all += wordsFrom(place + 1, places);
                    }
                }
            }
            return all;
        }

        private void startAhead(Places places) {
            makeFar(places.ahead, 0);
            places.ahead[0] = 0;
        }

        /** Brings the costs ahead over a place by one value; the least cost of a whole way with that value there. */
        private int goAhead(int place, int value, Places places) {
            int whole = FAR;
            if (!isIn(place, 0, MOST_NAMES - 1) || !isValue(value)) {
                return whole;
            }
            for (int i = starts[value]; i < starts[value + 1] && i < MOST_STEPS; i++) {
                int from = Places.costAt(place, digit(steps[i], 0));
                int to = Places.costAt(place + 1, digit(steps[i], 1));
                int cost = places.ahead[from] + (steps[i] >>> 6);
                places.ahead[to] = Math.min(places.ahead[to], cost);
                whole = Math.min(whole, cost + places.behind[to]);
            }
            return whole;
        }

        private void goBehind(int place, int value, Places places) {
            if (!isIn(place, 0, MOST_NAMES - 1) || !isValue(value)) {
                return;
            }
            for (int i = starts[value]; i < starts[value + 1] && i < MOST_STEPS; i++) {
                int from = Places.costAt(place, digit(steps[i], 0));
                int to = Places.costAt(place + 1, digit(steps[i], 1));
                int cost = places.behind[to] + (steps[i] >>> 6);
                places.behind[from] = Math.min(places.behind[from], cost);
            }
        }

        private static void makeFar(int[] costs, int place) {
            if (!isIn(place, 0, MOST_NAMES)) {
                return;
            }
            for (int state = 0; state < STATES; state++) {
                costs[Places.costAt(place, state)] = FAR;
            }
        }
    }

    /**
     * A kind that needs to know but a small number, its state (0 at first), of all values that stand before a place.
     * What can come behind depends on place and state alone, so it is looked for once for each two of them.
     */
    private abstract static class Walk extends Constraint {
        Walk(int kind, int many, int row) {
            super(kind, many, row);
        }

        /** The state behind a place; NONE: no word goes on so. */
        abstract int after(int state, int place, int value);

        abstract boolean isGoodAtEnd(int state);

        final boolean keeps(Places places) {
            places.forget();
            return wordsFrom(0, 0, places) > 0;
        }

        final int openWords(Places places) {
            places.forget();
            return wordsFrom(0, 0, places);
        }

        private int wordsFrom(int place, int state, Places places) {
            if (place < 0 || place >= many || place >= MOST_NAMES) {
                return isGoodAtEnd(state) ? 1 : 0;
            }
            int known = places.recall(place, state);
            if (known != NONE) {
                return known;
            }
            int all = 0;
            for (int value = 0; value < MOST_VALUES; value++) {
                int to = has(places.open[place], value) ? after(state, place, value) : NONE;
                int words = to == NONE ? 0 : wordsFrom(place + 1, to, places);
                if (words > 0) {
                    places.kept[place] |= 1 << value;
                    all += words;
                }
            }
            places.remember(place, state, all);
            return all;
        }
    }

    /** State: the first value, and from the second place on also the second one, three bits each. */
    private static final class Element extends Walk {
        Element(int many, int row) {
            super(KIND_ELEMENT, many, row);
        }

        int after(int state, int place, int value) {
            if (place == 0) {
                return value < many - 2 ? value : NONE;
            }
            if (place == 1) {
                return state | value << 3;
            }
            boolean isMeant = place - 2 == digit(state, 0);
            return isMeant && value != digit(state, 1) ? NONE : state;
        }

        boolean isGoodAtEnd(int state) {
            return true;
        }
    }

    /** State: the values of the first half that are yet to be compared, three bits each; or BEFORE. */
    private static final class Order extends Walk {
        /** No value is 7, so no two of them look so. */
        private static final int BEFORE = 63;

        private final boolean strict;

        Order(int many, int row, boolean strict) {
            super(KIND_ORDER, many, row);
            this.strict = strict;
        }

        int after(int state, int place, int value) {
            if (place < many >> 1) {
                return state | value << 3 * place;
            }
            if (state == BEFORE || digit(state, 0) < value) {
                return BEFORE;
            }
            return digit(state, 0) > value ? NONE : state >>> 3;
        }

        boolean isGoodAtEnd(int state) {
            return state == BEFORE || !strict;
        }
    }

    /** State: the sum so far. */
    private static final class Sum extends Walk {
        private final int low;
        private final int high;

        Sum(int many, int row, int low, int high) {
            super(KIND_SUM, many, row);
            this.low = low;
            this.high = high;
        }

        int after(int state, int place, int value) {
            return state + value > high ? NONE : state + value;
        }

        boolean isGoodAtEnd(int state) {
            return isIn(state, low, high);
        }
    }

    /** State: how many places had the value so far. */
    private static final class Tally extends Walk {
        private final int counted;
        private final int low;
        private final int high;

        Tally(int many, int row, int counted, int low, int high) {
            super(KIND_TALLY, many, row);
            this.counted = counted;
            this.low = low;
            this.high = high;
        }

        int after(int state, int place, int value) {
            return value == counted ? state + 1 : state;
        }

        boolean isGoodAtEnd(int state) {
            return isIn(state, low, high);
        }
    }

    /** State: 1 once a has stood, 0 before. */
    private static final class First extends Walk {
        private final int a;
        private final int b;

        First(int many, int row, int a, int b) {
            super(KIND_FIRST, many, row);
            this.a = a;
            this.b = b;
        }

        int after(int state, int place, int value) {
            if (value == b && state == 0) {
                return NONE;
            }
            return value == a ? 1 : state;
        }

        boolean isGoodAtEnd(int state) {
            return true;
        }
    }
}
