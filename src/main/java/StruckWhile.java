/** What each call promises stands in ../shared/DOC.md; README.md tells how this file is laid out. */
public final class StruckWhile {
    public static final int NONE = -1, BAD = -2, STATE = -3, FULL = -4;
    public static final long NO = Long.MIN_VALUE;

    private static final int NOTHING = -11, CAST = -12, PLACE = -13, SIZE = -14;
    /** The document's -5: nobody, nothing, not by then. */
    private static final int LACKS = -5;
    /** Stands for NONE where an answer may be below 0. */
    private static final int NO_SUCH = -10001;
    /** What square() answers for a FAULT at place 0. */
    private static final int FAULT_AT_0 = -10;
    /** What judge() answers if the row ends before anything was looked at. */
    private static final int ENDED_AT_0 = 100;

    private static final int MOST_PEOPLE = 6, MOST_WORKS = 4, MOST_SQUARES = 6, MOST_SEEN = 5;
    private static final int MOST_PLANNED = 10, MOST_BOOKED = 8, MOST_TAPES = 6, MOST_ITEMS = 60;
    private static final int MOST_SIGNS = 100, MOST_CLAUSES = 10, MOST_NESTED = 4, MOST_TRACED = 20;
    private static final int MOST_HEAT = 99, MOST_V = 9, MOST_NEEDS = 999, MOST_STRUCK = 9999;
    private static final int MOST_MINUTES = 60, MOST_MINUTES_IN_ROW = 40, MOST_MINUTES_OF_ODDS = 20;
    private static final int MOST_MINUTES_SEEN = 12, LAST_MINUTE = 9999, ROW_PARTS = 4;
    private static final int HOT = 50, SPARK_WITHOUT = 80, SPARK_GIVES = 10;
    private static final int TALKED_MINUTES = 3, ODDS_HEAT = 20;

    private static final int BANKER = 1, GIRL = 2, RECTOR = 3, LOVER = 4, CROWD = 5, TOLD = 6;
    /** By KIND: the KIND above it; -1: none. */
    private static final int[] KIND_ABOVE = {-1, 0, 0, 0, 1, 2, 3};

    private final Whole now = new Whole();
    private final Whole image = new Whole();
    private boolean hasImage;
    private final Town town = now.town;
    private final Ahead ahead = new Ahead(now.town, now.seen);
    private final Reader reader = new Reader();
    private final Square[] squares = new Square[MOST_SQUARES];
    private int squareCount;
    private final Acts acts = new Acts();
    private final Tapes tapes = new Tapes();

    public StruckWhile() {
        for (int i = 0; i < squares.length; i++) {
            squares[i] = new Square();
        }
    }

    // ---- people, works, squares

    public int one(int kind, int v, int heat) {
        if (!isWithin(kind, 0, TOLD)) {
            return NONE;
        }
        if (!isWithin(v, 0, MOST_V) || !isWithin(heat, 0, MOST_HEAT)) {
            return BAD;
        }
        if (town.people >= MOST_PEOPLE) {
            return FULL;
        }
        return town.addOne(kind, v, heat);
    }

    public int of(int person, int what) {
        if (!town.hasOne(person)) {
            return NO_SUCH;
        }
        switch (what) {
            case 0:
                return town.kind[person];
            case 1:
                return town.v[person];
            case 2:
                return town.heat[person];
            case 3:
                return asNumber(town.isAway[person]);
            case 4:
                return town.riseOf(person);
            case 5:
                return town.countBeside(person, HOT);
            default:
                return NO_SUCH;
        }
    }

    public int heat(int person, int n) {
        if (!town.hasOne(person)) {
            return NONE;
        }
        if (!isWithin(n, 0, MOST_HEAT)) {
            return BAD;
        }
        int before = town.heat[person];
        town.heat[person] = n;
        return before;
    }

    public int away(int person, boolean is) {
        if (!town.hasOne(person)) {
            return NONE;
        }
        int before = asNumber(town.isAway[person]);
        town.isAway[person] = is;
        return before;
    }

    public int work(int needs, int due) {
        if (!isWithin(needs, 1, MOST_NEEDS) || !isWithin(due, 0, MOST_MINUTES)) {
            return BAD;
        }
        if (town.works >= MOST_WORKS) {
            return FULL;
        }
        return town.addWork(needs, due);
    }

    public int piece(int work, int what) {
        if (!town.hasWork(work)) {
            return NONE;
        }
        switch (what) {
            case 0:
                return town.needs[work];
            case 1:
                return town.due[work];
            case 2:
                return town.struck[work];
            case 3:
                return asNumber(town.isDone(work));
            case 4:
                return ahead.minutesUntilDone(work);
            default:
                return NONE;
        }
    }

    public int anvil(int work) {
        if (work != -1 && !town.hasWork(work)) {
            return NONE;
        }
        int before = orLacks(town.onAnvil);
        town.onAnvil = work;
        return before;
    }

    public int row(int person, int part, int n) {
        if (!town.hasOne(person) || !isWithin(part, 0, ROW_PARTS - 1)) {
            return NONE;
        }
        if (!isWithin(n, 0, MOST_V)) {
            return BAD;
        }
        if (town.kind[person] != TOLD) {
            return STATE;
        }
        int place = person * ROW_PARTS + part;
        int before = town.rows[place];
        town.rows[place] = n;
        return before;
    }

    public int feed(int sign) {
        if (!isWithin(sign, 0, 127)) {
            return BAD;
        }
        if (reader.size >= MOST_SIGNS) {
            return FULL;
        }
        return reader.add((byte) sign);
    }

    public int square() {
        if (squareCount >= MOST_SQUARES) {
            return FULL;
        }
        Square next = squares[squareCount];
        boolean isSquare = reader.reads(next);
        reader.empty();
        if (!isSquare) {
            return FAULT_AT_0 - reader.at;
        }
        town.holding = next;
        squareCount++;
        return squareCount - 1;
    }

    public int told(int what) {
        switch (what) {
            case 0:
                return town.minute;
            case 1:
                return town.spark();
            case 2:
                return orLacks(town.onAnvil);
            case 3:
                return town.doneBits();
            case 4:
                return orLacks(town.hottest());
            case 5:
                return town.heatOfAll();
            default:
                return NONE;
        }
    }

    // ---- minutes

    public int pass(int n) {
        if (!isWithin(n, 0, MOST_MINUTES)) {
            return BAD;
        }
        if (town.minute + n > LAST_MINUTE) {
            return STATE;
        }
        town.goOn(n);
        return town.minute;
    }

    public int on(int n, int what) {
        boolean isOfOne = town.hasOne(what - 10);
        boolean isOfWork = town.hasWork(what - 20);
        if (what != 0 && !isOfOne && !isOfWork) {
            return NONE;
        }
        if (!isWithin(n, 0, MOST_MINUTES)) {
            return BAD;
        }
        Town then = ahead.behind(n);
        if (isOfOne) {
            return then.heat[what - 10];
        }
        return isOfWork ? then.struck[what - 20] : then.doneBits();
    }

    // ---- rows, talk

    public int best(int n, int k) {
        if (!isWithin(k, -1, MOST_WORKS - 1)) {
            return NONE;
        }
        if (!isWithin(n, 0, MOST_MINUTES_IN_ROW)) {
            return BAD;
        }
        int most = ahead.findBestRow(n);
        if (k == -1) {
            return most;
        }
        return k < town.works ? ahead.bestRow[k] : LACKS;
    }

    public int talk(int n, int what) {
        if (!isWithin(what, 0, 1)) {
            return NONE;
        }
        if (!isWithin(n, 0, MOST_HEAT)) {
            return BAD;
        }
        int person = ahead.whomToTalkTo(n);
        if (person < 0) {
            return LACKS;
        }
        return what == 0 ? person : ahead.hottestByTalk(person, n);
    }

    // ---- seen, odds

    public int see(int person, int n, boolean isHot) {
        if (person == -1) {
            return now.seen.empty();
        }
        if (!town.hasOne(person)) {
            return NONE;
        }
        if (!isWithin(n, 0, MOST_MINUTES_SEEN)) {
            return BAD;
        }
        return now.seen.isFull() ? FULL : now.seen.add(person, n, asNumber(isHot));
    }

    public int can(int person, int which, int what) {
        if (!town.hasOne(person) || !isWithin(which, 0, 1) || !isWithin(what, 0, 1)) {
            return NONE;
        }
        return ahead.fitting(person, which == 0, what == 0);
    }

    public long odds(int person, int n, int part) {
        if (!town.hasOne(person) || !isWithin(n, 0, MOST_MINUTES_OF_ODDS)) {
            return NO;
        }
        return lowestTerms(ahead.countHot(person, n), town.countHere(), part);
    }

    public long mean(int n, int part) {
        if (!isWithin(n, 0, MOST_MINUTES)) {
            return NO;
        }
        return lowestTerms(ahead.behind(n).heatOfAll(), town.people, part);
    }

    // ---- plans, books

    public int plan(int what, int n) {
        if (what == -1) {
            return now.plan.empty();
        }
        boolean isOfOne = what == Ahead.GOES_AWAY || what == Ahead.COMES_BACK;
        if (what != Ahead.MINUTE_GOES && !isOfOne && what != Ahead.WORK_ON_ANVIL) {
            return NONE;
        }
        if (isOfOne && !town.hasOne(n) || what == Ahead.WORK_ON_ANVIL && !town.hasWork(n)) {
            return NONE;
        }
        return now.plan.isFull() ? FULL : now.plan.add(what, n, 0);
    }

    public int ends(int what) {
        if (!isWithin(what, 0, 1)) {
            return NONE;
        }
        Town then = ahead.behindPlan(now.plan);
        return what == 0 ? then.heatOfAll() : then.doneBits();
    }

    public int book(int person, int heat) {
        if (person == -1) {
            return now.book.empty();
        }
        if (!town.hasOne(person)) {
            return NONE;
        }
        if (!isWithin(heat, 0, MOST_HEAT)) {
            return BAD;
        }
        return now.book.isFull() ? FULL : now.book.add(person, heat, 0);
    }

    public int looked() {
        Sheet book = now.book;
        for (int i = 0; i < book.size; i++) {
            int person = book.first[i];
            if (town.hasOne(person) && town.heat[person] != book.second[i]) {
                return i;
            }
        }
        return LACKS;
    }

    // ---- judging, the image, acts, tapes

    public int judge(int tape, int i) {
        if (!tapes.has(tape)) {
            return NONE;
        }
        if (tapes.holds(tape) && tapes.sort[tape] != Tapes.BYTES) {
            return CAST;
        }
        for (int person = 0; person < town.people; person++) {
            if (!tapes.holds(tape) || i < 0 || i >= tapes.size[tape] - person) {
                return ENDED_AT_0 + person;
            }
            if (tapes.items[tape][i + person] != town.heat[person]) {
                return person;
            }
        }
        return LACKS;
    }

    public int image() {
        image.become(now);
        hasImage = true;
        return town.people;
    }

    public int undo() {
        if (!hasImage) {
            return STATE;
        }
        now.become(image);
        return town.people;
    }

    public int act(int person, int act, int x) {
        // An act that is none has no TRACE either.
        acts.ran = 0;
        if (!town.hasOne(person) || !isWithin(act, Acts.GLOWS, Acts.TELLS)) {
            return 0;
        }
        return acts.start(town, person, act, x);
    }

    public int trace(int i) {
        return i >= 0 && i < acts.ran && i < MOST_TRACED ? acts.traced[i] : NONE;
    }

    public int taken(int person, int k) {
        if (!isWithin(k, 0, TOLD)) {
            return BAD;
        }
        if (!town.hasOne(person)) {
            return NOTHING;
        }
        return isOrIsUnder(town.kind[person], k) ? town.kind[person] : CAST;
    }

    public int count(int what) {
        switch (what) {
            case 0:
                return town.people;
            case 1:
                return town.works;
            case 2:
                return squareCount;
            case 3:
                return now.seen.size;
            case 4:
                return now.plan.size;
            case 5:
                return now.book.size;
            case 6:
                return reader.size;
            case 7:
                return acts.ran;
            default:
                return BAD;
        }
    }

    public int tape(int tape, int sort, int n) {
        if (!tapes.has(tape)) {
            return NONE;
        }
        if (sort == Tapes.HOLDS_NOTHING) {
            return tapes.become(tape, sort, 0);
        }
        if (!isWithin(sort, Tapes.BYTES, Tapes.BOOLEANS) || n > MOST_ITEMS) {
            return BAD;
        }
        return n < 0 ? SIZE : tapes.become(tape, sort, n);
    }

    public int item(int tape, int i, long v) {
        if (!tapes.has(tape)) {
            return NONE;
        }
        if (!tapes.holds(tape)) {
            return NOTHING;
        }
        return tapes.hasItems(tape, i, 1) ? tapes.put(tape, i, v) : PLACE;
    }

    public long read(int tape, int i) {
        return tapes.has(tape) && tapes.holds(tape) && tapes.hasItems(tape, i, 1) ? tapes.items[tape][i] : NO;
    }

    public int shift(int tape, int i, int other, int j, int n) {
        if (!tapes.has(tape) || !tapes.has(other)) {
            return NONE;
        }
        if (!tapes.holds(tape) || !tapes.holds(other)) {
            return NOTHING;
        }
        if (tapes.sort[tape] != tapes.sort[other]) {
            return CAST;
        }
        if (!tapes.hasItems(tape, i, n) || !tapes.hasItems(other, j, n)) {
            return PLACE;
        }
        System.arraycopy(tapes.items[tape], i, tapes.items[other], j, n);
        return n;
    }

    // ---- what several calls share

    private static boolean isWithin(int n, int least, int most) {
        return n >= least && n <= most;
    }

    private static int asNumber(boolean is) {
        return is ? 1 : 0;
    }

    /** Inside, -1 stands for none; the document answers -5. */
    private static int orLacks(int number) {
        return number < 0 ? LACKS : number;
    }

    private static boolean isOrIsUnder(int kind, int k) {
        int at = kind;
        for (int steps = 0; steps < KIND_ABOVE.length && isWithin(at, 0, TOLD); steps++) {
            if (at == k) {
                return true;
            }
            at = KIND_ABOVE[at];
        }
        return false;
    }

    private static long lowestTerms(int above, int below, int part) {
        if (below < 1 || !isWithin(part, 0, 1)) {
            return NO;
        }
        int common = below;
        while (common > 1 && (above % common != 0 || below % common != 0)) {
            common--;
        }
        return part == 0 ? above / common : below / common;
    }

    /** Rows told by hand, of up to three numbers each. */
    private static final class Sheet {
        final int[] first;
        final int[] second;
        final int[] third;
        int size;

        Sheet(int most) {
            first = new int[most];
            second = new int[most];
            third = new int[most];
        }

        boolean isFull() {
            return size >= first.length;
        }

        int add(int a, int b, int c) {
            if (!isFull()) {
                first[size] = a;
                second[size] = b;
                third[size] = c;
                size++;
            }
            return size;
        }

        int empty() {
            size = 0;
            return size;
        }

        /** Both are made for as many rows. */
        void become(Sheet other) {
            size = other.size;
            for (int i = 0; i < size && i < first.length; i++) {
                first[i] = other.first[i];
                second[i] = other.second[i];
                third[i] = other.third[i];
            }
        }
    }

    /** All that THE IMAGE holds. */
    private static final class Whole {
        final Town town = new Town();
        final Sheet seen = new Sheet(MOST_SEEN);
        final Sheet plan = new Sheet(MOST_PLANNED);
        final Sheet book = new Sheet(MOST_BOOKED);

        void become(Whole other) {
            town.become(other.town);
            seen.become(other.seen);
            plan.become(other.plan);
            book.become(other.book);
        }
    }

    /** All by which a MINUTE goes. */
    private static final class Town {
        int people;
        final int[] kind = new int[MOST_PEOPLE];
        final int[] v = new int[MOST_PEOPLE];
        final int[] heat = new int[MOST_PEOPLE];
        final boolean[] isAway = new boolean[MOST_PEOPLE];
        /** The ROWS of all, one behind the other. */
        final int[] rows = new int[MOST_PEOPLE * ROW_PARTS];
        int works;
        final int[] needs = new int[MOST_WORKS];
        final int[] due = new int[MOST_WORKS];
        final int[] struck = new int[MOST_WORKS];
        /** -1: none. */
        int onAnvil = -1;
        int minute;
        /** null: no SQUARE holds. */
        Square holding;
        private final int[] nextHeat = new int[MOST_PEOPLE];
        private final int[] letters = new int[Square.LETTERS];

        boolean hasOne(int person) {
            return person >= 0 && person < people;
        }

        boolean hasWork(int work) {
            return work >= 0 && work < works;
        }

        int addOne(int itsKind, int itsV, int itsHeat) {
            int person = people;
            kind[person] = itsKind;
            v[person] = itsV;
            heat[person] = itsHeat;
            isAway[person] = false;
            for (int part = 0; part < ROW_PARTS; part++) {
                rows[person * ROW_PARTS + part] = 0;
            }
            people++;
            return person;
        }

        int addWork(int itsNeeds, int itsDue) {
            int work = works;
            needs[work] = itsNeeds;
            due[work] = itsDue;
            struck[work] = 0;
            works++;
            return work;
        }

        void become(Town other) {
            people = other.people;
            System.arraycopy(other.kind, 0, kind, 0, MOST_PEOPLE);
            System.arraycopy(other.v, 0, v, 0, MOST_PEOPLE);
            System.arraycopy(other.heat, 0, heat, 0, MOST_PEOPLE);
            for (int person = 0; person < MOST_PEOPLE; person++) {
                isAway[person] = other.isAway[person];
            }
            System.arraycopy(other.rows, 0, rows, 0, rows.length);
            works = other.works;
            System.arraycopy(other.needs, 0, needs, 0, MOST_WORKS);
            System.arraycopy(other.due, 0, due, 0, MOST_WORKS);
            System.arraycopy(other.struck, 0, struck, 0, MOST_WORKS);
            onAnvil = other.onAnvil;
            minute = other.minute;
            holding = other.holding;
        }

        boolean isHot(int person) {
            return hasOne(person) && heat[person] >= HOT;
        }

        boolean isDone(int work) {
            return hasWork(work) && struck[work] >= needs[work];
        }

        int doneBits() {
            int bits = 0;
            for (int work = 0; work < works; work++) {
                if (isDone(work)) {
                    bits |= 1 << work;
                }
            }
            return bits;
        }

        int heatOfAll() {
            int sum = 0;
            for (int person = 0; person < people; person++) {
                sum += heat[person];
            }
            return sum;
        }

        int countHere() {
            int here = 0;
            for (int person = 0; person < people; person++) {
                if (!isAway[person]) {
                    here++;
                }
            }
            return here;
        }

        /** The hottest one not AWAY; -1: none. */
        int hottest() {
            int best = -1;
            for (int person = 0; person < people; person++) {
                if (!isAway[person] && (best < 0 || heat[person] > heat[best])) {
                    best = person;
                }
            }
            return best;
        }

        /** How many of those next to one, not AWAY, have at least so much HEAT. */
        int countBeside(int person, int least) {
            int count = 0;
            if (hasOne(person - 1) && !isAway[person - 1] && heat[person - 1] >= least) {
                count++;
            }
            if (hasOne(person + 1) && !isAway[person + 1] && heat[person + 1] >= least) {
                count++;
            }
            return count;
        }

        int spark() {
            return holding == null ? SPARK_WITHOUT : holding.spark;
        }

        int riseOf(int person) {
            int beside = countBeside(person, HOT);
            setLetters(person, beside);
            int sum = holding == null ? 0 : holding.sum(letters);
            int asGirl = minute % 3 == 0 ? sum + 5 : sum;
            int asBanker = heat[person] >= HOT ? sum - 3 : sum;
            switch (kind[person]) {
                case BANKER:
                    return asBanker;
                case GIRL:
                    return asGirl;
                case RECTOR:
                    return sum / 2;
                case LOVER:
                    return asBanker + v[person];
                case CROWD:
                    return asGirl + 2 * beside;
                case TOLD:
                    return sum / 2 + rows[person * ROW_PARTS + minute % ROW_PARTS];
                default:
                    return sum;
            }
        }

        private void setLetters(int person, int hotBeside) {
            letters[Square.P] = person;
            letters[Square.K] = kind[person];
            letters[Square.V] = v[person];
            letters[Square.H] = heat[person] / 10;
            letters[Square.N] = hotBeside;
            letters[Square.M] = minute % 10;
        }

        void goOn(int minutes) {
            for (int i = 0; i < minutes; i++) {
                goOneMinute();
            }
        }

        void goOneMinute() {
            int giver = hasWork(onAnvil) && !isDone(onAnvil) ? hottest() : -1;
            int spark = spark();
            // All rise by how all is ahead of the MINUTE, so no HEAT may change before the last RISE is known.
            for (int person = 0; person < people; person++) {
                nextHeat[person] = heat[person];
                if (!isAway[person] && person != giver) {
                    int more = riseOf(person) + SPARK_GIVES * countBeside(person, spark);
                    nextHeat[person] = Math.max(0, Math.min(MOST_HEAT, heat[person] + more));
                }
            }
            if (giver >= 0) {
                struck[onAnvil] = Math.min(MOST_STRUCK, struck[onAnvil] + heat[giver]);
                nextHeat[giver] = 0;
            }
            System.arraycopy(nextHeat, 0, heat, 0, MOST_PEOPLE);
            minute++;
        }
    }

    /** What a SQUARE's CLAUSES say: steps that work on a pile of bits, one behind the other. */
    private static final class Square {
        static final int P = 0, K = 1, V = 2, H = 3, N = 4, M = 5;
        /** A power of two, so that a masked place is always inside. */
        static final int LETTERS = 8;
        /** Any other comparison is more. */
        static final int LESS = 0, SAME = 1;
        /** Steps that are no TEST; a TEST is 0 or more. */
        static final int NOT = -1, BOTH = -2, EITHER = -3, CLAUSE_ENDS = -4;

        int spark = SPARK_WITHOUT;
        private final int[] steps = new int[MOST_SIGNS];
        private int stepCount;
        /** What each CLAUSE that ends adds to SUM. */
        private final int[] heats = new int[MOST_CLAUSES];
        private int heatCount;

        void empty() {
            spark = SPARK_WITHOUT;
            stepCount = 0;
            heatCount = 0;
        }

        void addTest(int letter, int comparison, int number) {
            addStep(number << 5 | comparison << 3 | letter);
        }

        /** Each step comes from at least one sign of THE TEXT, so there is room for all. */
        void addStep(int step) {
            if (stepCount < steps.length) {
                steps[stepCount] = step;
                stepCount++;
            }
        }

        /** The steps since the last clause are this one's E. */
        void addClause(int heat) {
            if (heatCount < heats.length) {
                heats[heatCount] = heat;
                heatCount++;
                addStep(CLAUSE_ENDS);
            }
        }

        /** Within 4 nestings at most 11 bits wait at once, so an int is pile enough. */
        int sum(int[] letters) {
            int sum = 0;
            int ended = 0;
            int pile = 0;
            for (int i = 0; i < stepCount; i++) {
                int step = steps[i];
                int top = pile & 1;
                if (step >= 0) {
                    pile = pile << 1 | test(step, letters[step & LETTERS - 1]);
                } else if (step == NOT) {
                    pile ^= 1;
                } else if (step == BOTH) {
                    pile = pile >> 1 & (top | ~1);
                } else if (step == EITHER) {
                    pile = pile >> 1 | top;
                } else if (ended < heatCount) {
                    sum += top == 1 ? heats[ended] : 0;
                    ended++;
                    pile = 0;
                }
            }
            return sum;
        }

        private static int test(int step, int has) {
            int number = step >> 5;
            switch (step >> 3 & 3) {
                case LESS:
                    return has < number ? 1 : 0;
                case SAME:
                    return has == number ? 1 : 0;
                default:
                    return has > number ? 1 : 0;
            }
        }
    }

    /** THE TEXT, and how it is read; where reading stops, there is the FAULT. */
    private static final class Reader {
        private static final String HEAT_WORD = "heat", CALM_WORD = "calm", SPARK_WORD = "spark";
        private static final String LETTERS = "pkvhnm", COMPARISONS = "<=>";

        int size;
        int at;
        private final byte[] text = new byte[MOST_SIGNS];
        private Square into;

        int add(byte sign) {
            if (size < text.length) {
                text[size] = sign;
                size++;
            }
            return size;
        }

        void empty() {
            size = 0;
        }

        boolean reads(Square square) {
            square.empty();
            into = square;
            at = 0;
            for (int clauses = 1; clauses <= MOST_CLAUSES; clauses++) {
                if (!readsClause()) {
                    return false;
                }
                if (at == size) {
                    return true;
                }
                if (clauses == MOST_CLAUSES || !takes(';')) {
                    return false;
                }
            }
            return false;
        }

        private boolean readsClause() {
            if (sees('h')) {
                return takesWord(HEAT_WORD) && readsHeat(1);
            }
            if (sees('c')) {
                return takesWord(CALM_WORD) && readsHeat(-1);
            }
            if (!takesWord(SPARK_WORD) || !takes(' ')) {
                return false;
            }
            int spark = takeNumber();
            if (spark >= 0) {
                into.spark = spark;
            }
            return spark >= 0;
        }

        private boolean readsHeat(int sign) {
            if (!takes(' ')) {
                return false;
            }
            int heat = takeNumber();
            if (heat < 0 || !takes(' ') || !readsEither(0)) {
                return false;
            }
            into.addClause(sign * heat);
            return true;
        }

        private boolean readsEither(int nested) {
            if (!readsBoth(nested)) {
                return false;
            }
            for (int more = 0; more < MOST_SIGNS && takes('|'); more++) {
                if (!readsBoth(nested)) {
                    return false;
                }
                into.addStep(Square.EITHER);
            }
            return true;
        }

        private boolean readsBoth(int nested) {
            if (!readsFactor(nested)) {
                return false;
            }
            for (int more = 0; more < MOST_SIGNS && takes('&'); more++) {
                if (!readsFactor(nested)) {
                    return false;
                }
                into.addStep(Square.BOTH);
            }
            return true;
        }

        private boolean readsFactor(int nested) {
            if (!sees('!') && !sees('(')) {
                return readsTest();
            }
            if (nested >= MOST_NESTED) {
                return false;
            }
            if (takes('(')) {
                return readsEither(nested + 1) && takes(')');
            }
            if (!takes('!') || !readsFactor(nested + 1)) {
                return false;
            }
            into.addStep(Square.NOT);
            return true;
        }

        private boolean readsTest() {
            int letter = takeOneOf(LETTERS);
            if (letter < 0) {
                return false;
            }
            int comparison = takeOneOf(COMPARISONS);
            if (comparison < 0) {
                return false;
            }
            int number = takeNumber();
            if (number < 0) {
                return false;
            }
            into.addTest(letter, comparison, number);
            return true;
        }

        /** 1 or 2 digits; -1: there is none. */
        private int takeNumber() {
            int number = -1;
            for (int digits = 0; digits < 2 && at < size && text[at] >= '0' && text[at] <= '9'; digits++) {
                number = Math.max(number, 0) * 10 + text[at] - '0';
                at++;
            }
            return number;
        }

        /** Which of these signs is next; -1: none. */
        private int takeOneOf(String signs) {
            int which = at < size ? signs.indexOf((char) text[at]) : -1;
            if (which >= 0) {
                at++;
            }
            return which;
        }

        private boolean takesWord(String word) {
            for (int i = 0; i < word.length(); i++) {
                if (!takes(word.charAt(i))) {
                    return false;
                }
            }
            return true;
        }

        private boolean takes(char sign) {
            boolean isNext = sees(sign);
            if (isNext) {
                at++;
            }
            return isNext;
        }

        private boolean sees(char sign) {
            return at < size && text[at] == sign;
        }
    }

    /** What is asked of later MINUTES: it goes on in a Town of its own, so that nothing changes. */
    private static final class Ahead {
        static final int MINUTE_GOES = 0, GOES_AWAY = 1, COMES_BACK = 2, WORK_ON_ANVIL = 3;
        /** By a number of WORKS: how many rows they make. */
        private static final int[] ROWS_OF = {1, 1, 2, 6, 24};

        final int[] bestRow = new int[MOST_WORKS];
        private final Town now;
        private final Sheet seen;
        private final Town then = new Town();
        private final int[] row = new int[MOST_WORKS];
        /** How many of the row's first WORKS its MINUTES depended on. */
        private int reached;

        Ahead(Town now, Sheet seen) {
            this.now = now;
            this.seen = seen;
        }

        Town behind(int minutes) {
            then.become(now);
            then.goOn(minutes);
            return then;
        }

        int minutesUntilDone(int work) {
            then.become(now);
            then.onAnvil = work;
            for (int minutes = 0; minutes <= MOST_MINUTES; minutes++) {
                if (then.isDone(work)) {
                    return minutes;
                }
                then.goOneMinute();
            }
            return LACKS;
        }

        /** How many are DONE in time by the best row, which stands in bestRow then. */
        int findBestRow(int minutes) {
            int works = Math.min(now.works, MOST_WORKS);
            int most = -1;
            int number = 0;
            for (int tries = 0; tries < ROWS_OF[works] && number < ROWS_OF[works] && most < works; tries++) {
                setRow(works, number);
                int done = countDoneInTime(works, minutes);
                if (done > most) {
                    most = done;
                    System.arraycopy(row, 0, bestRow, 0, MOST_WORKS);
                }
                // Rows that begin alike and run out of MINUTES in that beginning all end alike.
                number += ROWS_OF[works - reached];
            }
            return most;
        }

        /** The row by its number among all rows, the first being 0. */
        private void setRow(int works, int number) {
            int rest = number;
            int used = 0;
            for (int place = 0; place < works; place++) {
                int rowsFromHere = ROWS_OF[works - 1 - place];
                for (int work = 0; work < works; work++) {
                    boolean isFree = (used >> work & 1) == 0;
                    if (isFree && rest < rowsFromHere) {
                        row[place] = work;
                        used |= 1 << work;
                        break;
                    }
                    rest -= isFree ? rowsFromHere : 0;
                }
            }
        }

        private int countDoneInTime(int works, int minutes) {
            then.become(now);
            int done = Integer.bitCount(now.doneBits());
            int place = firstUndone(0, works);
            for (int minute = 1; minute <= minutes && place < works; minute++) {
                int work = row[place];
                then.onAnvil = work;
                then.goOneMinute();
                if (then.isDone(work)) {
                    done += asNumber(minute <= then.due[work]);
                    place = firstUndone(place + 1, works);
                }
            }
            reached = Math.min(place + 1, works);
            return done;
        }

        private int firstUndone(int from, int works) {
            int place = from;
            while (place < works && then.isDone(row[place])) {
                place++;
            }
            return place;
        }

        /** -1: all are AWAY. */
        int whomToTalkTo(int more) {
            int best = -1;
            int most = -1;
            for (int person = 0; person < now.people; person++) {
                if (!now.isAway[person]) {
                    int heat = hottestByTalk(person, more);
                    if (heat > most) {
                        best = person;
                        most = heat;
                    }
                }
            }
            return best;
        }

        int hottestByTalk(int person, int more) {
            warm(person, more);
            then.goOn(TALKED_MINUTES);
            int hottest = then.hottest();
            return hottest < 0 ? LACKS : then.heat[hottest];
        }

        private void warm(int person, int more) {
            then.become(now);
            then.onAnvil = -1;
            then.heat[person] = Math.min(MOST_HEAT, then.heat[person] + more);
        }

        /** Of the HEATS (else of the numbers v) by which all of SEEN is so: how many, or else the least. */
        int fitting(int person, boolean isHeat, boolean isHowMany) {
            int last = isHeat ? MOST_HEAT : MOST_V;
            int count = 0;
            int least = LACKS;
            for (int number = last; number >= 0; number--) {
                then.become(now);
                then.onAnvil = -1;
                if (isHeat) {
                    then.heat[person] = number;
                } else {
                    then.v[person] = number;
                }
                if (isAllSeenSo()) {
                    count++;
                    least = number;
                }
            }
            return isHowMany ? count : least;
        }

        private boolean isAllSeenSo() {
            int last = 0;
            for (int i = 0; i < seen.size; i++) {
                last = Math.max(last, seen.second[i]);
            }
            for (int minute = 0; minute <= last; minute++) {
                for (int i = 0; i < seen.size; i++) {
                    if (seen.second[i] == minute && asNumber(then.isHot(seen.first[i])) != seen.third[i]) {
                        return false;
                    }
                }
                if (minute < last) {
                    then.goOneMinute();
                }
            }
            return true;
        }

        /** By how many of those who may be warmed the told one is hot then. */
        int countHot(int person, int minutes) {
            int count = 0;
            for (int warmed = 0; warmed < now.people; warmed++) {
                if (!now.isAway[warmed]) {
                    warm(warmed, ODDS_HEAT);
                    then.goOn(minutes);
                    count += asNumber(then.isHot(person));
                }
            }
            return count;
        }

        Town behindPlan(Sheet plan) {
            then.become(now);
            for (int i = 0; i < plan.size; i++) {
                goPlanned(plan.first[i], plan.second[i]);
            }
            return then;
        }

        private void goPlanned(int what, int n) {
            if (what == MINUTE_GOES) {
                then.goOneMinute();
            } else if (what == WORK_ON_ANVIL) {
                then.onAnvil = n;
            } else if (then.hasOne(n)) {
                then.isAway[n] = what == GOES_AWAY;
            }
        }
    }

    /** ACTS of one, and THE TRACE of the latest. */
    private static final class Acts {
        static final int GLOWS = 0, RINGS = 1, TELLS = 2;
        private static final int ACT_COUNT = 3;
        /** Far beyond the 6 bodies that the deepest act has open at once. */
        private static final int DEEPEST = 20;
        /** By KIND, then by act: the number of its body; 0: the KIND has none. A body's tens are its KIND and 1. */
        private static final int[] BODIES = {
            10, 11, 12,
            0, 20, 0,
            30, 0, 0,
            0, 0, 40,
            50, 51, 0,
            0, 0, 60,
            71, 70, 0};

        int ran;
        final int[] traced = new int[MOST_TRACED];
        private int number;
        private int kind;
        private int v;

        int start(Town town, int person, int act, int x) {
            number = person;
            kind = town.kind[person];
            v = town.v[person];
            return run(kind, act, x, 0);
        }

        /** Runs the body of the act that a KIND has, itself or from above. */
        private int run(int fromKind, int act, int x, int deep) {
            int body = bodyOf(fromKind, act);
            if (body == 0 || deep >= DEEPEST) {
                return 0;
            }
            note(body);
            int above = KIND_ABOVE[body / 10 - 1];
            int deeper = deep + 1;
            switch (body) {
                case 10:
                    return x + number;
                case 11:
                    return run(kind, GLOWS, x, deeper) - v;
                case 12:
                    return run(kind, RINGS, x, deeper) * 2;
                case 20:
                    return run(above, RINGS, x, deeper) ^ 6;
                case 30:
                    return run(above, GLOWS, x * 3, deeper);
                case 40:
                    return run(above, TELLS, x, deeper) + run(kind, RINGS, 1, deeper);
                case 50:
                    return -run(above, GLOWS, x, deeper);
                case 51:
                    return run(above, RINGS, x + 1, deeper);
                case 60:
                    return run(above, TELLS, x - number, deeper);
                case 70:
                    return run(above, RINGS, x, deeper) + run(above, GLOWS, 2, deeper);
                case 71:
                    return run(above, GLOWS, x, deeper) ^ v;
                default:
                    return 0;
            }
        }

        private static int bodyOf(int fromKind, int act) {
            int at = fromKind;
            for (int steps = 0; steps < KIND_ABOVE.length && isWithin(at, 0, TOLD); steps++) {
                int body = BODIES[at * ACT_COUNT + act];
                if (body != 0) {
                    return body;
                }
                at = KIND_ABOVE[at];
            }
            return 0;
        }

        private void note(int body) {
            if (ran < traced.length) {
                traced[ran] = body;
            }
            ran++;
        }
    }

    /** Every TAPE's items stand in longs, cut to what its sort holds. */
    private static final class Tapes {
        static final int HOLDS_NOTHING = -1, BYTES = 0, SHORTS = 1, INTS = 2, LONGS = 3, BOOLEANS = 4;

        final int[] sort = new int[MOST_TAPES];
        final int[] size = new int[MOST_TAPES];
        final long[][] items = new long[MOST_TAPES][MOST_ITEMS];

        Tapes() {
            for (int tape = 0; tape < MOST_TAPES; tape++) {
                sort[tape] = HOLDS_NOTHING;
            }
        }

        boolean has(int tape) {
            return tape >= 0 && tape < MOST_TAPES;
        }

        boolean holds(int tape) {
            return sort[tape] != HOLDS_NOTHING;
        }

        /** Written so that no sum can wrap. */
        boolean hasItems(int tape, int from, int n) {
            return n >= 0 && n <= size[tape] && from >= 0 && from <= size[tape] - n;
        }

        int become(int tape, int itsSort, int n) {
            sort[tape] = itsSort;
            size[tape] = n;
            for (int i = 0; i < n; i++) {
                items[tape][i] = 0;
            }
            return 1;
        }

        int put(int tape, int i, long value) {
            items[tape][i] = cut(sort[tape], value);
            return 1;
        }

        private static long cut(int sort, long value) {
            switch (sort) {
                case BYTES:
                    return (byte) value;
                case SHORTS:
                    return (short) value;
                case INTS:
                    return (int) value;
                case LONGS:
                    return value;
                default:
                    return asNumber(value != 0);
            }
        }
    }
}
