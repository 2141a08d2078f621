/** A child who walks so far and no farther, the way she is to go, and the people who carry her. */
public final class CarriedAsFarAsTheStile {
    public static final int NONE = -1;

    private static final int FURLONGS_AT_MOST = 24;
    private static final int PEOPLE_AT_MOST = 6;
    private static final int SLOPE_AT_MOST = 3;
    private static final int TRAIT_AT_MOST = 9;
    private static final int TIRED_AT_MOST = 99;
    private static final int SHELVES = 8;
    private static final int SORTS = 4;
    private static final int LONGEST_ROW = 160;
    private static final int LONGEST_WALK = 60;

    private static final int PERSON = 0;
    private static final int STRONG = 1;
    private static final int STRANGE = 2;
    private static final int FATHER = 3;
    private static final int SMALL = 4;
    private static final int UNCLE = 5;
    private static final int GRAN = 6;
    private static final int KINDS = 7;
    private static final int[] KIND_ABOVE = {NONE, PERSON, PERSON, STRONG, PERSON, STRANGE, SMALL};
    private static final int[] LOAD_MORE = {0, -1, 1, -2, 2, 0, 2};

    private static final int WALK = 6;
    private static final int BISCUIT = 7;
    private static final int RACE = 8;
    private static final int REST = 9;
    private static final int ACTS = 10;

    private static final int MOST = 0;
    private static final int NAP = 1;
    private static final int WORN = 2;
    private static final int BISCUITS = 3;
    private static final int RACES = 4;
    private static final int ASKED = 5;
    private static final int[] ASKED_LOWEST = {1, 1, 1, 0, 0};
    private static final int[] ASKED_HIGHEST = {9, 9, 99, 9, 9};

    private static final int TURNS = 0;
    private static final int LEGS = 2;
    private static final int COAX = 3;
    private static final int RULES = 4;

    private static final int NOBODY = 1;
    private static final int OTHER = 2;
    private static final int NOTHING = 3;
    private static final int BELOW = 4;
    private static final int BEYOND = 5;
    private static final int WRONG = 6;
    private static final int ROOM = 7;

    private final Shelf[] shelves = new Shelf[SHELVES];
    private final Walk now = new Walk(new Way());
    private final Walk image = new Walk(new Way());
    private final Walk trial = new Walk(now.way);
    private final Rules rules = new Rules(now.way);
    private final Search search = new Search(now.way);
    private final Telling telling = new Telling();
    private final Moves moves = new Moves();
    private final int[] refusals = new int[ROOM + 1];
    private boolean imageTaken = false;
    private int latestFault = NONE;

    public CarriedAsFarAsTheStile() {
        for (int s = 0; s < SHELVES; s++) {
            shelves[s] = new Shelf();
        }
    }

    // ---- shelves

    public int row(int s, int sort, int n) {
        if (!isShelf(s)) {
            return refuse(NOBODY);
        }
        if (n < 0) {
            return refuse(BELOW);
        }
        if (sort < 0 || sort >= SORTS) {
            return refuse(WRONG);
        }
        if (n > LONGEST_ROW) {
            return refuse(ROOM);
        }
        shelves[s].makeRow(sort, n);
        return 1;
    }

    public int set(int s, int i, long v) {
        int why = whyNoRow(s);
        if (why != 0) {
            return refuse(why);
        }
        if (!shelves[s].hasElement(i)) {
            return refuse(BEYOND);
        }
        shelves[s].put(i, v);
        return 1;
    }

    public int copy(int p, int q, int i, int j, int n) {
        int why = whyNoCopy(p, q);
        if (why != 0) {
            return refuse(why);
        }
        if (n < 0) {
            return refuse(BELOW);
        }
        Shelf from = shelves[p];
        Shelf to = shelves[q];
        if (!from.hasElements(i, n) || !to.hasElements(j, n)) {
            return refuse(BEYOND);
        }
        System.arraycopy(from.cells, i, to.cells, j, n);
        return 1;
    }

    public long element(int s, int i) {
        if (whyNoRow(s) != 0 || !shelves[s].hasElement(i)) {
            return 0L;
        }
        return shelves[s].cells[i];
    }

    public int show(int s, int person) {
        if (!isShelf(s) || (person != NONE && !now.way.hasPerson(person))) {
            return refuse(NOBODY);
        }
        shelves[s].holding = person;
        return person == NONE ? 0 : 1;
    }

    public int holds(int s) {
        return isShelf(s) ? shelves[s].holding : NONE;
    }

    public int says(int s, int kind) {
        if (!isShelf(s) || !isKind(kind)) {
            return refuse(NOBODY);
        }
        int person = shelves[s].holding;
        if (person == NONE) {
            return refuse(NOTHING);
        }
        if (!now.way.hasPerson(person) || !isUnder(now.way.kinds[person], kind)) {
            return refuse(OTHER);
        }
        switch (kind) {
            case STRONG:
            case FATHER:
                return restOfKind(now.way.kinds[person]);
            case STRANGE:
            case UNCLE:
                return now.asleep() ? 1 : 0;
            case SMALL:
            case GRAN:
                return now.loadOnSlope(person, 0);
            default:
                return now.tired[person];
        }
    }

    // ---- the way, the people, the child

    public int furlong(int slope, boolean stile) {
        if (slope < -SLOPE_AT_MOST || slope > SLOPE_AT_MOST) {
            return refuse(WRONG);
        }
        if (now.way.furlongs >= FURLONGS_AT_MOST) {
            return refuse(ROOM);
        }
        return now.way.addFurlong(slope, stile);
    }

    public int person(int kind, int a) {
        if (!isKind(kind)) {
            return refuse(NOBODY);
        }
        if (a < 0 || a > TRAIT_AT_MOST) {
            return refuse(WRONG);
        }
        if (now.way.people >= PEOPLE_AT_MOST) {
            return refuse(ROOM);
        }
        return now.addPerson(kind, a);
    }

    public int furlongOf(int furlong, int what) {
        if (!now.way.hasFurlong(furlong) || what < 0 || what > 1) {
            return refuseFar(BEYOND);
        }
        return what == 0 ? now.way.slopes[furlong] : now.way.stiles[furlong];
    }

    public int personOf(int person, int what) {
        if (!now.way.hasPerson(person)) {
            return refuse(BEYOND);
        }
        switch (what) {
            case 0: return now.way.kinds[person];
            case 1: return now.way.traits[person];
            case 2: return now.tired[person];
            case 3: return now.bag == person ? 1 : 0;
            default: return refuse(BEYOND);
        }
    }

    public int ask(int what, int v) {
        if (what < 0 || what >= ASKED || v < ASKED_LOWEST[what] || v > ASKED_HIGHEST[what]) {
            return refuse(WRONG);
        }
        int was = now.asked(what);
        now.become(what, v);
        return was;
    }

    public int tire(int person, int v) {
        if (!now.way.hasPerson(person)) {
            return refuse(NOBODY);
        }
        if (v < 0 || v > TIRED_AT_MOST) {
            return refuse(WRONG);
        }
        int was = now.tired[person];
        now.tired[person] = v;
        return was;
    }

    public int bag(int person) {
        if (person != NONE && !now.way.hasPerson(person)) {
            return refuseFar(NOBODY);
        }
        int was = now.bag;
        now.bag = person;
        return was;
    }

    public int way(int s) {
        int why = whyNoRow(s);
        if (why != 0) {
            return refuse(why);
        }
        telling.read(shelves[s], now);
        latestFault = telling.fault;
        if (latestFault != NONE) {
            return refuse(WRONG);
        }
        now.way.copyFrom(telling.walk.way);
        now.copyFrom(telling.walk);
        return telling.items;
    }

    public int fault() {
        return latestFault;
    }

    // ---- what may be, and what is best ahead

    public int load(int person, int furlong) {
        if (!now.way.hasPerson(person)) {
            return refuse(NOBODY);
        }
        if (!now.way.hasFurlong(furlong)) {
            return refuse(BEYOND);
        }
        return now.loadOnSlope(person, now.way.slopes[furlong]);
    }

    public int may(int act) {
        if (act < 0 || act >= ACTS) {
            return refuse(WRONG);
        }
        return now.mayBe(act) ? 1 : 0;
    }

    public int next() {
        int bits = 0;
        for (int act = 0; act < ACTS; act++) {
            if (now.mayBe(act)) {
                bits |= 1 << act;
            }
        }
        return bits;
    }

    public int ahead(int n, int what) {
        if (what < NONE || what > 6) {
            return refuse(BEYOND);
        }
        if (n < 1 || n > Search.DEEPEST) {
            return refuse(WRONG);
        }
        search.look(now, n);
        switch (what) {
            case NONE: return search.bestActs;
            case 4: return search.bestHere - now.here;
            case 5: return search.bestWorst;
            case 6: return search.bestMinutes - now.minutes;
            default: return what < search.bestActs ? search.best[what] : refuse(BEYOND);
        }
    }

    // ---- what comes by rules

    public int by(int rule, int what) {
        boolean ofPerson = what >= 10 && now.way.hasPerson(what - 10);
        if (!ofPerson && (what < 0 || what > 3)) {
            return refuse(BEYOND);
        }
        if (!isRule(rule)) {
            return refuse(WRONG);
        }
        rules.begin(now);
        rules.goOn(rule);
        switch (what) {
            case 0: return rules.walk.here;
            case 1: return rules.walk.minutes;
            case 2: return rules.worst;
            case 3: return rules.acts;
            default: return rules.walk.tired[what - 10];
        }
    }

    public int best(int what) {
        if (what < 0 || what > 1) {
            return refuse(BEYOND);
        }
        int best = 0;
        int bestHere = NONE;
        int bestCost = 0;
        for (int rule = 0; rule < RULES; rule++) {
            rules.begin(now);
            rules.goOn(rule);
            int cost = what == 0 ? rules.worst : rules.walk.minutes;
            if (isBetter(rules.walk.here, cost, bestHere, bestCost)) {
                best = rule;
                bestHere = rules.walk.here;
                bestCost = cost;
            }
        }
        return best;
    }

    public int whose(int furlong) {
        if (!now.way.hasFurlong(furlong) || now.way.people == 0) {
            return refuse(BEYOND);
        }
        int slope = now.way.slopes[furlong];
        int least = 0;
        for (int person = 1; person < now.way.people; person++) {
            if (now.loadOnSlope(person, slope) < now.loadOnSlope(least, slope)) {
                least = person;
            }
        }
        return least;
    }

    public int turn(int rule, int n) {
        if (!isRule(rule)) {
            return refuseFar(WRONG);
        }
        int most = NONE;
        rules.begin(now);
        for (int act = 0; act <= LONGEST_WALK && rules.walk.minutesThereAndBack() <= n; act++) {
            most = rules.walk.here - now.here;
            if (!rules.step(rule)) {
                break;
            }
        }
        return most;
    }

    public int pays(int rule) {
        if (!isRule(rule)) {
            return refuse(WRONG);
        }
        if (!now.mayBe(REST)) {
            return 0;
        }
        rules.begin(now);
        rules.goOn(rule);
        int here = rules.walk.here;
        int worst = rules.worst;
        rules.begin(now);
        rules.walk.come(REST);
        rules.goOn(rule);
        return isBetter(rules.walk.here, rules.worst, here, worst) ? 1 : 0;
    }

    public int bagged(int rule) {
        if (!isRule(rule)) {
            return refuseFar(WRONG);
        }
        int best = NONE;
        int bestHere = NONE;
        int bestWorst = 0;
        for (int person = NONE; person < now.way.people; person++) {
            rules.begin(now);
            rules.walk.bag = person;
            rules.goOn(rule);
            if (isBetter(rules.walk.here, rules.worst, bestHere, bestWorst)) {
                best = person;
                bestHere = rules.walk.here;
                bestWorst = rules.worst;
            }
        }
        return best;
    }

    // ---- told walks

    public int judge(int s, int n) {
        int why = whyNoWalk(s, n);
        if (why != 0) {
            return refuseFar(why);
        }
        return tryWalk(shelves[s], n);
    }

    public int behind(int s, int n, int what) {
        int why = whyNoWalk(s, n);
        if ((why == 0 || why == WRONG) && (what < 0 || what > 3)) {
            why = BEYOND;
        }
        if (why == 0 && tryWalk(shelves[s], n) != NONE) {
            why = WRONG;
        }
        if (why != 0) {
            return refuse(why);
        }
        switch (what) {
            case 0: return trial.here;
            case 1: return trial.minutes;
            case 2: return trial.greatestTired();
            default: return trial.legs;
        }
    }

    public int done(int s, int n) {
        int why = whyNoWalk(s, n);
        if (why == 0 && tryWalk(shelves[s], n) != NONE) {
            why = WRONG;
        }
        if (why != 0) {
            return refuse(why);
        }
        now.copyFrom(trial);
        return now.here;
    }

    public int fits(int s) {
        int why = whyNoRow(s);
        if (why != 0) {
            return refuse(why);
        }
        if (shelves[s].size < now.way.people) {
            return refuse(BEYOND);
        }
        int bits = 0;
        for (int rule = 0; rule < RULES; rule++) {
            rules.begin(now);
            rules.goOn(rule);
            if (areSoTired(rules.walk, shelves[s])) {
                bits |= 1 << rule;
            }
        }
        return bits;
    }

    public int enough() {
        return leastToTheEnd(COAX, BISCUITS);
    }

    public int leastWorn(int rule) {
        return isRule(rule) ? leastToTheEnd(rule, WORN) : refuseFar(WRONG);
    }

    // ---- in truth

    public int does(int act) {
        if (!now.mayBe(act)) {
            return refuse(WRONG);
        }
        now.come(act);
        return now.here;
    }

    public int summer(int n) {
        if (n < 1 || n > LONGEST_WALK) {
            return refuse(WRONG);
        }
        int from = now.here;
        for (int i = 0; i < n; i++) {
            int bits = next();
            if (bits != 0) {
                now.come(nthBit(bits, now.draw(Integer.bitCount(bits))));
            }
        }
        return now.here - from;
    }

    public int day() {
        int gone = now.here;
        now.here = 0;
        now.minutes = 0;
        now.on = 0;
        now.legs = now.most;
        for (int person = 0; person < PEOPLE_AT_MOST; person++) {
            now.tired[person] = 0;
        }
        return gone;
    }

    public int seed(int v) {
        int was = now.seed;
        now.seed = v;
        return was;
    }

    public int act(int person, int move, int x) {
        if (!now.way.hasPerson(person) || move < 0 || move >= Moves.COUNT) {
            moves.forget();
            return 0;
        }
        return moves.run(now.way, person, move, x);
    }

    public int trace(int i) {
        return moves.kept(i);
    }

    public int image() {
        image.way.copyFrom(now.way);
        image.copyFrom(now);
        imageTaken = true;
        return now.way.people;
    }

    public int restore() {
        if (!imageTaken) {
            return refuse(WRONG);
        }
        now.way.copyFrom(image.way);
        now.copyFrom(image);
        for (Shelf shelf : shelves) {
            if (!shelf.holdsRow() && !now.way.hasPerson(shelf.holding)) {
                shelf.holding = NONE;
            }
        }
        return now.way.people;
    }

    public int status(int what) {
        if (what >= 6 && what < 6 + ASKED) {
            return now.asked(what - 6);
        }
        if (what >= 11 && what < 11 + ROOM) {
            return refusals[what - 10];
        }
        switch (what) {
            case 0: return now.way.people;
            case 1: return now.way.furlongs;
            case 2: return now.here;
            case 3: return now.minutes;
            case 4: return now.legs;
            case 5: return now.on;
            case 18: return now.seed;
            case 19: return moves.ran;
            case 20: return now.asleep() ? 1 : 0;
            default: return NONE;
        }
    }

    // ---- refusals, and why

    private int refuse(int why) {
        refusals[why]++;
        return -why;
    }

    /** Where an answer may itself be below 0, a refusal is told ten farther down. */
    private int refuseFar(int why) {
        refusals[why]++;
        return -10 - why;
    }

    private int whyNoRow(int s) {
        if (!isShelf(s)) {
            return NOBODY;
        }
        if (shelves[s].holdsRow()) {
            return 0;
        }
        return shelves[s].holding == NONE ? NOTHING : OTHER;
    }

    private int whyNoCopy(int p, int q) {
        int whyNotFrom = whyNoRow(p);
        int whyNotTo = whyNoRow(q);
        if (whyNotFrom == NOBODY || whyNotTo == NOBODY) {
            return NOBODY;
        }
        if (whyNotFrom == OTHER || whyNotTo == OTHER) {
            return OTHER;
        }
        if (whyNotFrom == NOTHING || whyNotTo == NOTHING) {
            return NOTHING;
        }
        return shelves[p].holding == shelves[q].holding ? 0 : OTHER;
    }

    private int whyNoWalk(int s, int n) {
        int why = whyNoRow(s);
        if (why != 0) {
            return why;
        }
        if (n < 0) {
            return BELOW;
        }
        if (n > shelves[s].size) {
            return BEYOND;
        }
        return n > LONGEST_WALK ? WRONG : 0;
    }

    // ---- what the calls above share

    private static boolean isShelf(int s) {
        return s >= 0 && s < SHELVES;
    }

    private static boolean isKind(int kind) {
        return kind >= 0 && kind < KINDS;
    }

    private static boolean isRule(int rule) {
        return rule >= 0 && rule < RULES;
    }

    private static boolean isUnder(int kind, int above) {
        int at = kind;
        for (int up = 0; up < KINDS && isKind(at); up++) {
            if (at == above) {
                return true;
            }
            at = KIND_ABOVE[at];
        }
        return false;
    }

    private static int restOfKind(int kind) {
        return kind == FATHER ? 3 : 2;
    }

    private static boolean isBetter(int here, int cost, int bestHere, int bestCost) {
        return here > bestHere || (here == bestHere && cost < bestCost);
    }

    private static int nthBit(int bits, int n) {
        int left = n;
        for (int bit = 0; bit < ACTS; bit++) {
            if ((bits >> bit & 1) != 0) {
                if (left == 0) {
                    return bit;
                }
                left--;
            }
        }
        return NONE;
    }

    /** Goes the told walk on trial: the place of the first act that may not be. */
    private int tryWalk(Shelf told, int n) {
        trial.copyFrom(now);
        for (int i = 0; i < n; i++) {
            int act = told.number(i);
            if (!trial.mayBe(act)) {
                return i;
            }
            trial.come(act);
        }
        return NONE;
    }

    private static boolean areSoTired(Walk walk, Shelf told) {
        for (int person = 0; person < walk.way.people; person++) {
            if (walk.tired[person] != told.number(person)) {
                return false;
            }
        }
        return true;
    }

    /** The least of what may be asked with which a rule comes to the end. */
    private int leastToTheEnd(int rule, int what) {
        for (int v = ASKED_LOWEST[what]; v <= ASKED_HIGHEST[what]; v++) {
            rules.begin(now);
            rules.walk.become(what, v);
            rules.goOn(rule);
            if (rules.walk.atEnd()) {
                return v;
            }
        }
        return NONE;
    }

    // ---- classes inside

    /** Holds nothing, a person's number, or a row: 100 and its sort. */
    private static final class Shelf {
        private static final int ROWS_FROM = 100;

        // Rows of every sort lie in longs, cut when they are put in: so no call makes an array.
        private final long[] cells = new long[LONGEST_ROW];
        private int holding = NONE;
        private int size = 0;

        boolean holdsRow() {
            return holding >= ROWS_FROM;
        }

        boolean hasElement(int i) {
            return i >= 0 && i < size;
        }

        boolean hasElements(int from, int n) {
            return from >= 0 && n >= 0 && n <= size && from <= size - n;
        }

        void makeRow(int sort, int n) {
            holding = ROWS_FROM + sort;
            size = n;
            for (int i = 0; i < n; i++) {
                cells[i] = 0L;
            }
        }

        void put(int i, long v) {
            switch (holding - ROWS_FROM) {
                case 0: cells[i] = (byte) v; break;
                case 1: cells[i] = (short) v; break;
                case 2: cells[i] = (int) v; break;
                default: cells[i] = v; break;
            }
        }

        int number(int i) {
            return (int) cells[i];
        }
    }

    /** What no act changes: the furlongs, and who the people are. */
    private static final class Way {
        private final int[] slopes = new int[FURLONGS_AT_MOST];
        private final int[] stiles = new int[FURLONGS_AT_MOST];
        private final int[] kinds = new int[PEOPLE_AT_MOST];
        private final int[] traits = new int[PEOPLE_AT_MOST];
        private int furlongs = 0;
        private int people = 0;

        void copyFrom(Way other) {
            System.arraycopy(other.slopes, 0, slopes, 0, FURLONGS_AT_MOST);
            System.arraycopy(other.stiles, 0, stiles, 0, FURLONGS_AT_MOST);
            System.arraycopy(other.kinds, 0, kinds, 0, PEOPLE_AT_MOST);
            System.arraycopy(other.traits, 0, traits, 0, PEOPLE_AT_MOST);
            furlongs = other.furlongs;
            people = other.people;
        }

        boolean hasFurlong(int furlong) {
            return furlong >= 0 && furlong < furlongs;
        }

        boolean hasPerson(int person) {
            return person >= 0 && person < people;
        }

        /** Only where there is room. */
        int addFurlong(int slope, boolean stile) {
            slopes[furlongs] = slope;
            stiles[furlongs] = stile ? 1 : 0;
            return furlongs++;
        }
    }

    /** How things stand on a way: in truth, in the image, or on trial. */
    private static final class Walk {
        private static final int LAST_REST = 900;

        private final Way way;
        private final int[] tired = new int[PEOPLE_AT_MOST];
        private int bag = NONE;
        private int most = 3;
        private int legs = 3;
        private int nap = 4;
        private int on = 0;
        private int biscuits = 2;
        private int races = 1;
        private int worn = 20;
        private int here = 0;
        private int minutes = 0;
        private int seed = 1;

        Walk(Way way) {
            this.way = way;
        }

        void copyFrom(Walk other) {
            System.arraycopy(other.tired, 0, tired, 0, PEOPLE_AT_MOST);
            bag = other.bag;
            most = other.most;
            legs = other.legs;
            nap = other.nap;
            on = other.on;
            biscuits = other.biscuits;
            races = other.races;
            worn = other.worn;
            here = other.here;
            minutes = other.minutes;
            seed = other.seed;
        }

        /** Only where there is room. */
        int addPerson(int kind, int trait) {
            way.kinds[way.people] = kind;
            way.traits[way.people] = trait;
            tired[way.people] = 0;
            return way.people++;
        }

        int asked(int what) {
            switch (what) {
                case MOST: return most;
                case NAP: return nap;
                case WORN: return worn;
                case BISCUITS: return biscuits;
                default: return races;
            }
        }

        void become(int what, int v) {
            switch (what) {
                case MOST:
                    most = v;
                    legs = Math.min(legs, v);
                    break;
                case NAP: nap = v; break;
                case WORN: worn = v; break;
                case BISCUITS: biscuits = v; break;
                default: races = v; break;
            }
        }

        boolean atEnd() {
            return here >= way.furlongs;
        }

        boolean asleep() {
            return on >= nap;
        }

        int greatestTired() {
            int greatest = 0;
            for (int person = 0; person < way.people; person++) {
                greatest = Math.max(greatest, tired[person]);
            }
            return greatest;
        }

        int minutesThereAndBack() {
            return minutes + 9 * here;
        }

        int loadOnSlope(int person, int slope) {
            int kind = way.kinds[person];
            int load = 4 + slope + LOAD_MORE[kind];
            if (kind == GRAN) {
                load += tired[person] / 10;
            }
            if (bag == person) {
                load += 2;
            }
            return load < 1 ? 1 : load;
        }

        boolean mayBe(int act) {
            switch (act) {
                case WALK: return mayWalk() && legs >= 1;
                case BISCUIT: return mayWalk() && biscuits >= 1;
                case RACE: return mayWalk() && races >= 1;
                case REST: return mayRest();
                default: return mayCarry(act);
            }
        }

        boolean mayCarry(int person) {
            if (!way.hasPerson(person) || atEnd()) {
                return false;
            }
            int kind = way.kinds[person];
            int slope = way.slopes[here];
            if ((kind == STRANGE || kind == UNCLE) && !asleep()) {
                return false;
            }
            if (kind == GRAN && slope > 1) {
                return false;
            }
            return tired[person] + loadOnSlope(person, slope) <= worn;
        }

        private boolean mayWalk() {
            return !atEnd() && !asleep();
        }

        private boolean mayRest() {
            return minutes <= LAST_REST && (here == 0 || way.stiles[here - 1] == 1);
        }

        /** Only an act that may be. */
        void come(int act) {
            switch (act) {
                case WALK:
                    walk();
                    break;
                case BISCUIT:
                    biscuits--;
                    legs = Math.min(legs + 2, most + 2);
                    walk();
                    break;
                case RACE:
                    races--;
                    legs = Math.min(legs + 1, most + 2);
                    walk();
                    break;
                case REST:
                    restAll();
                    break;
                default:
                    carry(act);
                    break;
            }
        }

        private void walk() {
            legs--;
            on = 0;
            minutes += 9 + way.slopes[here];
            restOthers(NONE);
            here++;
        }

        private void carry(int person) {
            int slope = way.slopes[here];
            tired[person] += loadOnSlope(person, slope);
            on++;
            if (on % 2 == 0 && legs < most) {
                legs++;
            }
            minutes += Math.max(3, 6 + slope + (on == 1 ? 1 : 0));
            restOthers(person);
            here++;
        }

        private void restOthers(int carrier) {
            for (int person = 0; person < way.people; person++) {
                if (person != carrier) {
                    int rest = restOfKind(way.kinds[person]) - (bag == person ? 1 : 0);
                    tired[person] = Math.max(0, tired[person] - rest);
                }
            }
        }

        private void restAll() {
            minutes += 10;
            on = 0;
            legs = Math.max(legs, most);
            for (int person = 0; person < way.people; person++) {
                tired[person] = Math.max(0, tired[person] - 6);
            }
        }

        /** Below n, which is 1 at least. */
        int draw(int n) {
            seed = seed * 1103515245 + 12345;
            return n > 0 ? (seed >>> 16) % n : 0;
        }
    }

    /** Goes a way by a rule, on a walk of its own. */
    private static final class Rules {
        private final Walk walk;
        private int turn = 0;
        private int acts = 0;
        private int worst = 0;

        Rules(Way way) {
            walk = new Walk(way);
        }

        void begin(Walk from) {
            walk.copyFrom(from);
            turn = 0;
            acts = 0;
            worst = walk.greatestTired();
        }

        void goOn(int rule) {
            for (int i = 0; i < LONGEST_WALK; i++) {
                if (!step(rule)) {
                    return;
                }
            }
        }

        /** The next act by the rule; false where the rule ends. */
        boolean step(int rule) {
            int act = acts < LONGEST_WALK && !walk.atEnd() ? choose(rule) : NONE;
            if (act == NONE) {
                return false;
            }
            walk.come(act);
            acts++;
            worst = Math.max(worst, walk.greatestTired());
            if (act != REST && walk.way.people > 0 && walk.way.stiles[walk.here - 1] == 1) {
                turn = (turn + 1) % walk.way.people;
            }
            return true;
        }

        private int choose(int rule) {
            if (rule >= LEGS && walk.mayBe(WALK)) {
                return WALK;
            }
            if (rule == COAX && walk.mayBe(BISCUIT)) {
                return BISCUIT;
            }
            if (rule == COAX && walk.mayBe(RACE)) {
                return RACE;
            }
            int person = rule == TURNS ? whoseTurn() : freshest();
            if (person != NONE) {
                return person;
            }
            if (walk.mayBe(WALK)) {
                return WALK;
            }
            return walk.mayBe(REST) ? REST : NONE;
        }

        private int whoseTurn() {
            int people = walk.way.people;
            for (int i = 0; i < people; i++) {
                int person = (turn + i) % people;
                if (walk.mayCarry(person)) {
                    turn = person;
                    return person;
                }
            }
            return NONE;
        }

        private int freshest() {
            int freshest = NONE;
            for (int person = 0; person < walk.way.people; person++) {
                if (walk.mayCarry(person)
                        && (freshest == NONE || walk.tired[person] < walk.tired[freshest])) {
                    freshest = person;
                }
            }
            return freshest;
        }
    }

    /** Looks for the best row of acts ahead. */
    private static final class Search {
        private static final int DEEPEST = 4;

        private final Walk[] walks = new Walk[DEEPEST + 1];
        private final int[] row = new int[DEEPEST];
        private final int[] best = new int[DEEPEST];
        private int depthWanted = 0;
        private int bestActs = 0;
        private int bestHere = NONE;
        private int bestWorst = 0;
        private int bestMinutes = 0;

        Search(Way way) {
            for (int i = 0; i <= DEEPEST; i++) {
                walks[i] = new Walk(way);
            }
        }

        void look(Walk from, int n) {
            depthWanted = Math.min(n, DEEPEST);
            bestHere = NONE;
            walks[0].copyFrom(from);
            deeper(0, from.greatestTired());
        }

        private void deeper(int depth, int worst) {
            if (isHopeless(depth, worst)) {
                return;
            }
            Walk walk = walks[depth];
            boolean ends = true;
            if (depth < depthWanted && !walk.atEnd()) {
                for (int act = 0; act < ACTS; act++) {
                    if (walk.mayBe(act)) {
                        ends = false;
                        row[depth] = act;
                        Walk behind = walks[depth + 1];
                        behind.copyFrom(walk);
                        behind.come(act);
                        deeper(depth + 1, Math.max(worst, behind.greatestTired()));
                    }
                }
            }
            if (ends) {
                offer(depth, worst);
            }
        }

        /** Each act goes one furlong at most, and the greatest tired never shrinks again. */
        private boolean isHopeless(int depth, int worst) {
            int farthest = walks[depth].here + depthWanted - depth;
            return farthest < bestHere || (farthest == bestHere && worst > bestWorst);
        }

        /** Rows come in the order of their numbers: only a better one takes the place. */
        private void offer(int depth, int worst) {
            Walk end = walks[depth];
            boolean better = isBetter(end.here, worst, bestHere, bestWorst);
            boolean sooner = end.here == bestHere && worst == bestWorst && end.minutes < bestMinutes;
            if (better || sooner) {
                bestActs = depth;
                bestHere = end.here;
                bestWorst = worst;
                bestMinutes = end.minutes;
                System.arraycopy(row, 0, best, 0, DEEPEST);
            }
        }
    }

    /** Reads a text, on a walk and a way of its own, so that a fault changes nothing. */
    private static final class Telling {
        private static final int WORDS = 12;
        private static final int LONGEST_WORD = 8;
        private static final int WORD_UP = 0;
        private static final int WORD_DOWN = 1;
        private static final int WORD_STILE = 2;
        private static final int WORD_PERSON = 3;
        private static final int WORD_TIRED = 4;
        private static final int WORD_BAG = 5;
        private static final int WORD_ACT = 6;
        // From here on the words stand in the order in which ask() has what they tell.
        private static final int WORD_LEGS = 7;

        private final Walk walk = new Walk(new Way());
        private final int[] letters = new int[LONGEST_ROW];
        private int size = 0;
        private int place = 0;
        private int numberPlace = 0;
        private int items = 0;
        private int fault = NONE;

        void read(Shelf text, Walk from) {
            walk.way.copyFrom(from.way);
            walk.copyFrom(from);
            size = text.size;
            for (int i = 0; i < size; i++) {
                letters[i] = text.number(i);
            }
            place = 0;
            items = 0;
            fault = NONE;
            boolean more = true;
            for (int i = 0; more && i <= LONGEST_ROW; i++) {
                readItem();
                items++;
                more = fault == NONE && place < size && readSign(';');
            }
        }

        private void readItem() {
            int start = place;
            int word = readWord();
            if (word == NONE) {
                return;
            }
            if (!hasRoomFor(word)) {
                fault = start;
                return;
            }
            switch (word) {
                case WORD_UP: tellFurlong(1); break;
                case WORD_DOWN: tellFurlong(-1); break;
                case WORD_STILE: walk.way.stiles[walk.way.furlongs - 1] = 1; break;
                case WORD_PERSON: tellPerson(); break;
                case WORD_TIRED: tellTired(); break;
                case WORD_BAG: tellBag(); break;
                case WORD_ACT: tellAct(); break;
                default: tellAsked(word - WORD_LEGS); break;
            }
        }

        private boolean hasRoomFor(int word) {
            switch (word) {
                case WORD_UP:
                case WORD_DOWN: return walk.way.furlongs < FURLONGS_AT_MOST;
                case WORD_STILE: return walk.way.furlongs > 0;
                case WORD_PERSON: return walk.way.people < PEOPLE_AT_MOST;
                default: return true;
            }
        }

        private void tellFurlong(int sign) {
            int slope = readNumber(0, SLOPE_AT_MOST);
            if (slope != NONE) {
                walk.way.addFurlong(sign * slope, false);
            }
        }

        private void tellPerson() {
            int kind = readNumber(0, KINDS - 1);
            int trait = kind == NONE ? NONE : readNumber(0, TRAIT_AT_MOST);
            if (trait != NONE) {
                walk.addPerson(kind, trait);
            }
        }

        private void tellTired() {
            int person = readNumber(0, walk.way.people - 1);
            int tired = person == NONE ? NONE : readNumber(0, TIRED_AT_MOST);
            if (tired != NONE) {
                walk.tired[person] = tired;
            }
        }

        private void tellBag() {
            int person = readNumber(0, walk.way.people - 1);
            if (person != NONE) {
                walk.bag = person;
            }
        }

        private void tellAct() {
            int act = readNumber(0, ACTS - 1);
            if (act == NONE) {
                return;
            }
            if (walk.mayBe(act)) {
                walk.come(act);
            } else {
                fault = numberPlace;
            }
        }

        private void tellAsked(int what) {
            if (what < 0 || what >= ASKED) {
                return;
            }
            int v = readNumber(ASKED_LOWEST[what], ASKED_HIGHEST[what]);
            if (v != NONE) {
                walk.become(what, v);
            }
        }

        /** No word begins another, so a word is whole as soon as its letters are. */
        private int readWord() {
            int start = place;
            for (int length = 1; length <= LONGEST_WORD; length++) {
                int word = wordBeginning(start, length);
                if (word == NONE) {
                    fault = place;
                    return NONE;
                }
                place++;
                if (spelling(word).length() == length) {
                    return word;
                }
            }
            return NONE;
        }

        /** The first word of which the first letters stand there. */
        private int wordBeginning(int start, int length) {
            for (int word = 0; word < WORDS; word++) {
                if (beginsThere(spelling(word), start, length)) {
                    return word;
                }
            }
            return NONE;
        }

        private boolean beginsThere(String word, int start, int length) {
            if (length > word.length() || start + length > size) {
                return false;
            }
            for (int i = 0; i < length; i++) {
                if (letters[start + i] != word.charAt(i)) {
                    return false;
                }
            }
            return true;
        }

        private static String spelling(int word) {
            switch (word) {
                case WORD_UP: return "up";
                case WORD_DOWN: return "down";
                case WORD_STILE: return "stile";
                case WORD_PERSON: return "person";
                case WORD_TIRED: return "tired";
                case WORD_BAG: return "bag";
                case WORD_ACT: return "act";
                case WORD_LEGS + MOST: return "legs";
                case WORD_LEGS + NAP: return "nap";
                case WORD_LEGS + WORN: return "worn";
                case WORD_LEGS + BISCUITS: return "biscuits";
                default: return "races";
            }
        }

        private boolean readSign(char sign) {
            if (place >= size || letters[place] != sign) {
                fault = place;
                return false;
            }
            place++;
            return true;
        }

        /** A blank and a number; NONE with the fault if that can't stand there. */
        private int readNumber(int lowest, int highest) {
            if (!readSign(' ')) {
                return NONE;
            }
            numberPlace = place;
            int number = 0;
            for (int digits = 0; digits < 2 && isDigitNext(); digits++) {
                number = number * 10 + letters[place] - '0';
                place++;
            }
            if (place == numberPlace || number < lowest || number > highest) {
                fault = numberPlace;
                return NONE;
            }
            return number;
        }

        private boolean isDigitNext() {
            return place < size && letters[place] >= '0' && letters[place] <= '9';
        }
    }

    /** The moves of people: which bodies run, and in what order they began. */
    private static final class Moves {
        private static final int LIFTS = 0;
        private static final int STEPS = 1;
        private static final int RESTS = 2;
        private static final int COUNT = 3;
        private static final int TRACE_KEPT = 20;
        private static final int DEEPEST = 40;
        // For each kind its bodies of lifts, steps, rests; 0 where it has none.
        private static final int[] BODIES = {
            10, 11, 12,
            20, 0, 0,
            0, 30, 0,
            0, 40, 0,
            51, 0, 50,
            0, 0, 60,
            70, 71, 0,
        };

        private final int[] begun = new int[TRACE_KEPT];
        private int ran = 0;
        private int own = PERSON;
        private int number = 0;
        private int trait = 0;

        void forget() {
            ran = 0;
        }

        int run(Way way, int person, int move, int x) {
            forget();
            own = way.kinds[person];
            number = person;
            trait = way.traits[person];
            return from(own, move, x, 0);
        }

        int kept(int i) {
            return i >= 0 && i < TRACE_KEPT && i < ran ? begun[i] : NONE;
        }

        /** The body of a kind, or of the next kind above that has one. */
        private int from(int kind, int move, int x, int depth) {
            int at = kind;
            for (int up = 0; up < KINDS && isKind(at) && BODIES[at * COUNT + move] == 0; up++) {
                at = KIND_ABOVE[at];
            }
            if (!isKind(at) || depth > DEEPEST) {
                return 0;
            }
            int body = BODIES[at * COUNT + move];
            if (ran < TRACE_KEPT) {
                begun[ran] = body;
            }
            ran++;
            return runBody(body, KIND_ABOVE[at], x, depth + 1);
        }

        /** Bodies that call super go on from the kind above theirs, others from the person's own. */
        private int runBody(int body, int above, int x, int depth) {
            switch (body) {
                case 10: return x + number;
                case 11: return from(own, LIFTS, x, depth) * 2;
                case 12: return from(own, STEPS, x, depth) ^ from(own, LIFTS, x - trait, depth);
                case 20: return from(above, LIFTS, x, depth) + trait;
                case 30: return from(above, STEPS, x, depth) * 3;
                case 40: return from(above, STEPS, x + 1, depth);
                case 50: return -from(above, RESTS, x, depth);
                case 51: return from(above, LIFTS, x, depth) - number;
                case 60: return from(above, RESTS, x, depth) ^ 5;
                case 70: return from(above, LIFTS, x, depth) * 2;
                default: return from(above, STEPS, x - trait, depth);
            }
        }
    }
}
