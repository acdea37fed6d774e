/** Towers whose steps are lent to one another: see README.md and the document that it names. */
public final class LentStairs {
    public static final int NONE = -1;
    public static final int NOTHING = -1000000000;

    private static final int TAPE_MOST = 1600;
    private static final int FED_AT_ONCE = 20;
    private static final int STATEMENTS_MOST = 70;
    private static final int TOWERS_MOST = 4;
    private static final int STEPS_LEAST = 3;
    private static final int STEPS_MOST = 14;
    private static final int GAPS_MOST = 20;
    private static final int GUARDS_MOST = 8;
    private static final int LEGS_MOST = 6;
    private static final int ROPE_MOST = 6;
    private static final int TOLD_MOST = 12;
    private static final int LOANS_MOST = 24;
    private static final int MOST_99 = 99;
    private static final int NAME_MOST = 6;
    private static final int DIGITS_MOST = 4;
    private static final int LAST_DAY = 999;
    private static final int DAYS_AHEAD = 100;
    private static final int ACTS_KEPT = 20;
    private static final int OPEN_MOST = 6;
    private static final int VALUE_MOST = 1000000;

    private static final int THERE = 0;
    private static final int MISSING = 1;
    private static final int LENT = 2;
    private static final int BENT = 3;

    private static final int NO_TEXT = 1;
    private static final int NO_NUMBER = 2;
    private static final int NO_NAME = 3;
    private static final int TOO_DEEP = 4;
    private static final int TOO_MANY = 5;

    private final Tape tape;
    private final RealmReader reader;
    private final Question question;
    private final Prices prices;
    private final State state;
    private final State ahead;
    private final History history;
    private final Picture picture;
    private final int[] refused;
    private Realm realm;

    public LentStairs() {
        tape = new Tape();
        reader = new RealmReader(tape);
        question = new Question(tape);
        prices = new Prices();
        state = new State();
        ahead = new State();
        history = new History();
        picture = new Picture();
        refused = new int[4];
        realm = new Realm();
    }

    public int feed(int a, int b, int c, int d, int e) {
        if (tape.length + FED_AT_ONCE > TAPE_MOST) {
            refused[0]++;
            return NONE;
        }
        tape.put(a);
        tape.put(b);
        tape.put(c);
        tape.put(d);
        tape.put(e);
        return tape.length;
    }

    public boolean end(int n) {
        if (n < 0 || n > tape.length) {
            refused[0]++;
            return false;
        }
        tape.length = n;
        return true;
    }

    public int realm() {
        int statements = reader.read();
        tape.length = 0;
        if (statements == NONE) {
            refused[1]++;
            return NONE;
        }
        Realm told = reader.realm;
        reader.realm = realm;
        realm = told;
        state.beginWith(realm);
        history.forget();
        return statements;
    }

    public int fault(int what) {
        if (what == 0) {
            return tape.fault;
        }
        return what == 1 ? tape.faultPlace : NONE;
    }

    public int has(int what) {
        switch (what) {
            case 0: return realm.towers;
            case 1: return realm.guards;
            case 2: return state.loans();
            case 3: return state.openLoans();
            case 4: return realm.bends;
            case 5: return state.today();
            case 6: return state.heldTowers(realm);
            case 7: return state.bentSteps();
            case 8: return state.stepsInYards();
            case 9: return history.kept;
            default: return NONE;
        }
    }

    public int letter(int kind, int which, int k) {
        if (k < 0 || k >= NAME_MOST) {
            return NONE;
        }
        if (kind == 0 && isTower(which)) {
            return realm.letterOf(which, k);
        }
        if (kind == 1 && isGuard(which)) {
            return realm.letterOf(TOWERS_MOST + which, k);
        }
        return NONE;
    }

    public int tower(int tower, int what) {
        if (!isTower(tower)) {
            return NONE;
        }
        switch (what) {
            case 0: return realm.heights[tower];
            case 1: return realm.costs[tower];
            case 2: return Integer.bitCount(state.standing(tower));
            case 3: return state.isHeld(realm, tower) ? 1 : 0;
            case 4: return realm.guardsOf(tower);
            case 5: return realm.leastLegs(tower);
            default: return NONE;
        }
    }

    public int purse(int tower) {
        return isTower(tower) ? state.inPurse(tower) : NOTHING;
    }

    public int step(int tower, int step, int what) {
        if (!isStep(tower, step)) {
            return NONE;
        }
        switch (what) {
            case 0: return state.howIs(tower, step);
            case 1: return (state.standing(tower) & bit(step)) != 0 ? 1 : 0;
            case 2: return state.loanThatFills(tower, step);
            case 3: return state.loanThatLends(tower, step);
            default: return NONE;
        }
    }

    public int loan(int loan, int what) {
        if (!isLoan(loan) || what < 0 || what >= State.LOAN_SIZE) {
            return NONE;
        }
        return state.ofLoan(loan, what);
    }

    public int guard(int guard, int what) {
        if (!isGuard(guard)) {
            return NONE;
        }
        switch (what) {
            case 0: return realm.guardTowers[guard];
            case 1: return realm.legs[guard];
            case 2: return realm.ropes[guard];
            default: return NONE;
        }
    }

    // ---- acts

    public int lend(int tower, int step, int to, int days, int rent) {
        boolean can = isStep(tower, step) && isTower(to) && tower != to
                && state.howIs(tower, step) == THERE
                && days >= 1 && days <= MOST_99 && rent >= 0 && rent <= MOST_99
                && state.loans() < LOANS_MOST;
        if (!can) {
            refused[2]++;
            return NONE;
        }
        history.keep(state);
        return state.startLoan(realm, tower, step, to, days, rent);
    }

    public boolean back(int loan) {
        if (!isLoan(loan) || state.hasEnded(loan)) {
            refused[2]++;
            return false;
        }
        history.keep(state);
        state.endLoan(loan, realm.bends);
        return true;
    }

    public boolean refit(int tower, int step) {
        if (!isStep(tower, step) || state.howIs(tower, step) != BENT) {
            refused[2]++;
            return false;
        }
        history.keep(state);
        state.straighten(tower, step, realm.costs[tower]);
        return true;
    }

    public int go(int n) {
        if (n < 1 || n > DAYS_AHEAD || state.today() + n > LAST_DAY) {
            refused[2]++;
            return NONE;
        }
        history.keep(state);
        int ended = 0;
        for (int i = 0; i < n; i++) {
            ended += state.passDay(realm.bends);
        }
        return ended;
    }

    public boolean undo() {
        if (!history.takeBack(state)) {
            refused[3]++;
            return false;
        }
        return true;
    }

    // ---- who reaches what

    public int reaches(int guard, int how) {
        if (!isGuard(guard) || how < 0 || how > 3) {
            return NONE;
        }
        boolean dark = (how & 1) != 0;
        boolean roped = (how & 2) != 0;
        int legs = dark ? Math.max(1, realm.legs[guard] - 1) : realm.legs[guard];
        int tower = realm.guardTowers[guard];
        int stand = state.standing(tower);
        int height = realm.heights[tower];
        return roped
                ? climbRoped(stand, height, legs, realm.ropes[guard])
                : climb(stand, height, legs, 0);
    }

    public int hops(int guard) {
        if (!isGuard(guard)) {
            return NONE;
        }
        int tower = realm.guardTowers[guard];
        return fewestHops(state.standing(tower), realm.heights[tower], realm.legs[guard]);
    }

    public int spare(int tower, int k) {
        return isTower(tower) ? countOrStep(spareOf(tower), k) : NONE;
    }

    public int need(int tower, int k) {
        return isTower(tower) ? countOrStep(needOf(tower), k) : NONE;
    }

    public int rescue(int k, int what) {
        int needed = 0;
        int spared = 0;
        for (int t = 0; t < realm.towers; t++) {
            needed += Integer.bitCount(needOf(t));
            spared += Integer.bitCount(spareOf(t));
        }
        if (spared < needed) {
            return NONE;
        }
        if (k == NONE) {
            return needed;
        }
        if (k < 0 || k >= needed) {
            return NONE;
        }
        switch (what) {
            case 0: return towerOfKth(k, true);
            case 1: return stepOfKth(k, true);
            case 2: return towerOfKth(k, false);
            case 3: return stepOfKth(k, false);
            default: return NONE;
        }
    }

    // ---- enemies, guards held back

    public int falls(int tower, int legs) {
        if (!isTower(tower) || legs < 1 || legs > LEGS_MOST) {
            return NONE;
        }
        int height = realm.heights[tower];
        int reached = climb(state.standing(tower), height, legs, 0);
        return reached == height ? NONE : reached;
    }

    public int odds(int tower) {
        if (!isTower(tower)) {
            return NONE;
        }
        int all = 0;
        int above = 0;
        int height = realm.heights[tower];
        for (int legs = 1; legs <= LEGS_MOST; legs++) {
            all += realm.odds[legs];
            if (climb(state.standing(tower), height, legs, 0) == height) {
                above += realm.odds[legs];
            }
        }
        return all == 0 ? NONE : 1000 * above / all;
    }

    public int blame(int guard, int what) {
        if (!isGuard(guard) || what < 0 || what > 2) {
            return NONE;
        }
        int tower = realm.guardTowers[guard];
        int height = realm.heights[tower];
        int legs = realm.legs[guard];
        if (climb(state.standing(tower), height, legs, 0) == height) {
            return NONE;
        }
        prices.forLoansBack(state, tower, height);
        int best = prices.fewestSets(height, legs);
        if (best == NONE) {
            return NONE;
        }
        switch (what) {
            case 0: return best / Prices.UNIT;
            case 1: return best % Prices.UNIT;
            default: return prices.ways[height];
        }
    }

    // ---- loans netted, wood, days to come

    public int netted() {
        int moved = 0;
        for (int t = 0; t < realm.towers; t++) {
            moved += Math.max(0, state.lentMoreThanBorrowed(t));
        }
        return moved;
    }

    public int ring() {
        int least = 0;
        for (int t = 0; t < realm.towers; t++) {
            int size = ringThrough(t);
            if (size != 0 && (least == 0 || size < least)) {
                least = size;
            }
        }
        return least;
    }

    public int wood(int guard) {
        if (!isGuard(guard)) {
            return NONE;
        }
        int tower = realm.guardTowers[guard];
        int height = realm.heights[tower];
        prices.forRefits(state, tower, height);
        int refits = prices.cheapest(height, realm.legs[guard]);
        return refits == NONE ? NONE : refits * realm.costs[tower];
    }

    public int rents(int tower, int n) {
        if (!isTower(tower) || n < 0 || n > DAYS_AHEAD || state.today() + n > LAST_DAY) {
            return NOTHING;
        }
        return state.rentsWithin(tower, n);
    }

    public int lost(int tower) {
        if (!isTower(tower)) {
            return NONE;
        }
        ahead.copy(state);
        int last = lastDayAhead();
        boolean changed = true;
        for (int day = state.today(); day <= last; day++) {
            if (changed && !ahead.isHeld(realm, tower)) {
                return day;
            }
            // who stands where is changed by the end of a LOAN alone
            changed = ahead.passDay(realm.bends) > 0;
        }
        return NONE;
    }

    public long ask() {
        boolean whole = question.read();
        tape.length = 0;
        if (!whole) {
            return NOTHING;
        }
        ahead.copy(state);
        return question.answer(realm, ahead, lastDayAhead());
    }

    // ---- images, refusals

    public int image() {
        return picture.draw(realm, state);
    }

    public int octet(int k) {
        return k >= 0 && k < picture.size ? picture.octets[k] : NONE;
    }

    public int status(int what) {
        return what >= 0 && what < refused.length ? refused[what] : NONE;
    }

    private boolean isTower(int tower) {
        return tower >= 0 && tower < realm.towers;
    }

    private boolean isGuard(int guard) {
        return guard >= 0 && guard < realm.guards;
    }

    private boolean isLoan(int loan) {
        return loan >= 0 && loan < state.loans();
    }

    private boolean isStep(int tower, int step) {
        return isTower(tower) && step >= 1 && step <= realm.heights[tower];
    }

    private int lastDayAhead() {
        return Math.min(state.today() + DAYS_AHEAD, LAST_DAY);
    }

    /** SPARE as bits. */
    private int spareOf(int tower) {
        if (!state.isHeld(realm, tower)) {
            return 0;
        }
        int height = realm.heights[tower];
        int lendable = state.thereIn(tower) & ~bit(height);
        int legs = realm.leastLegs(tower);
        if (legs == NONE) {
            return lendable;
        }
        prices.forKeeping(state, tower, height);
        int sum = prices.cheapest(height, legs);
        if (sum == NONE) {
            return 0;
        }
        int keptBits = -sum & (Prices.UNIT - 1);
        return lendable & ~keptBits;
    }

    /** NEED as bits. */
    private int needOf(int tower) {
        if (state.isHeld(realm, tower)) {
            return 0;
        }
        int height = realm.heights[tower];
        prices.forFilling(state, tower, height);
        int sum = prices.cheapest(height, realm.leastLegs(tower));
        return sum == NONE ? 0 : sum & (Prices.UNIT - 1);
    }

    /** The TOWER whose SPARE (or NEED) has the k-th STEP of all TOWERS' ones. */
    private int towerOfKth(int k, boolean spares) {
        int left = k;
        for (int t = 0; t < realm.towers; t++) {
            int size = Integer.bitCount(spares ? spareOf(t) : needOf(t));
            if (left < size) {
                return t;
            }
            left -= size;
        }
        return NONE;
    }

    private int stepOfKth(int k, boolean spares) {
        int left = k;
        for (int t = 0; t < realm.towers; t++) {
            int steps = spares ? spareOf(t) : needOf(t);
            int size = Integer.bitCount(steps);
            if (left < size) {
                return countOrStep(steps, left);
            }
            left -= size;
        }
        return NONE;
    }

    /** How many TOWERS the smallest RING has that goes through one; 0 without. */
    private int ringThrough(int tower) {
        int reached = 1 << tower;
        for (int size = 1; size <= realm.towers; size++) {
            int next = 0;
            for (int t = 0; t < realm.towers; t++) {
                if ((reached & (1 << t)) != 0) {
                    next |= state.borrowersOf(t);
                }
            }
            if ((next & (1 << tower)) != 0) {
                return size;
            }
            reached = next;
        }
        return 0;
    }

    private static int bit(int step) {
        return 1 << (step - 1);
    }

    private static int countOrStep(int steps, int k) {
        if (k == NONE) {
            return Integer.bitCount(steps);
        }
        int left = k;
        for (int s = 1; s <= STEPS_MOST; s++) {
            if ((steps & bit(s)) != 0) {
                if (left == 0) {
                    return s;
                }
                left--;
            }
        }
        return NONE;
    }

    /** The highest STEP reached from one: each hop to the next STEP loses nothing. */
    private static int climb(int stand, int height, int legs, int from) {
        int at = from;
        for (int s = from + 1; s <= height; s++) {
            if ((stand & bit(s)) != 0 && s - at <= legs) {
                at = s;
            }
        }
        return at;
    }

    /** The rope is best kept for where the legs alone end, and then used as far as it goes. */
    private static int climbRoped(int stand, int height, int legs, int rope) {
        int stuck = climb(stand, height, legs, 0);
        int landed = stuck;
        int farthest = Math.min(height, stuck + legs + rope);
        for (int s = stuck + 1; s <= farthest; s++) {
            if ((stand & bit(s)) != 0) {
                landed = s;
            }
        }
        return climb(stand, height, legs, landed);
    }

    private static int fewestHops(int stand, int height, int legs) {
        int at = 0;
        for (int hops = 1; hops <= height; hops++) {
            int next = at;
            int farthest = Math.min(height, at + legs);
            for (int s = at + 1; s <= farthest; s++) {
                if ((stand & bit(s)) != 0) {
                    next = s;
                }
            }
            if (next == at) {
                return NONE;
            }
            if (next == height) {
                return hops;
            }
            at = next;
        }
        return NONE;
    }

    /** The tape, read as words, numbers and signs; it keeps the FAULT of the latest reading. */
    private static final class Tape {
        private static final int AT_END = 0;
        private static final int WORD = 1;
        private static final int NUMBER = 2;
        private static final int SIGN = 3;
        private static final int GLUED = 4;

        private final int[] octets = new int[TAPE_MOST];
        private int length = 0;
        private int fault = 0;
        private int faultPlace = NONE;
        private int kind = AT_END;
        private int start = 0;
        private int stop = 0;

        private void put(int number) {
            for (int shift = 24; shift >= 0; shift -= 8) {
                if (length < octets.length) {
                    octets[length] = (number >>> shift) & 255;
                    length++;
                }
            }
        }

        private void rewind() {
            fault = 0;
            faultPlace = NONE;
            kind = AT_END;
            stop = 0;
            advance();
        }

        private void advance() {
            boolean needsBlank = kind == WORD || kind == NUMBER;
            int before = stop;
            start = before;
            while (start < length && isBlank(octets[start])) {
                start++;
            }
            stop = start;
            if (start >= length) {
                kind = AT_END;
            } else if (isLetter(octets[start])) {
                kind = WORD;
                while (stop < length && isLetter(octets[stop])) {
                    stop++;
                }
            } else if (isDigit(octets[start])) {
                kind = NUMBER;
                while (stop < length && isDigit(octets[stop])) {
                    stop++;
                }
            } else {
                kind = SIGN;
                stop = start + 1;
            }
            if (needsBlank && start == before && (kind == WORD || kind == NUMBER)) {
                kind = GLUED;
            }
        }

        /** Always false, so that a reader can return it. */
        private boolean fail(int number, int place) {
            if (fault == 0) {
                fault = number;
                faultPlace = place;
            }
            return false;
        }

        private boolean failHere() {
            return fail(NO_TEXT, start);
        }

        private boolean isSign(char sign) {
            return kind == SIGN && octets[start] == sign;
        }

        private boolean takeSign(char sign) {
            if (!isSign(sign)) {
                return failHere();
            }
            advance();
            return true;
        }

        /** Which of the words (each with a blank behind it) stands here; NONE if none of them. */
        private int wordAmong(String words) {
            if (kind != WORD) {
                return NONE;
            }
            int which = 0;
            int alike = start;
            for (int i = 0; i < words.length(); i++) {
                char c = words.charAt(i);
                if (c == ' ') {
                    if (alike == stop) {
                        return which;
                    }
                    which++;
                    alike = start;
                } else if (alike != NONE) {
                    alike = alike < stop && octets[alike] == c ? alike + 1 : NONE;
                }
            }
            return NONE;
        }

        /** The number that stands here; NONE, with a FAULT, if there is none. */
        private int numberHere() {
            if (kind != NUMBER) {
                fail(NO_TEXT, start);
                return NONE;
            }
            if (stop - start > DIGITS_MOST) {
                fail(NO_TEXT, start + DIGITS_MOST);
                return NONE;
            }
            int number = 0;
            for (int i = start; i < stop; i++) {
                number = 10 * number + octets[i] - '0';
            }
            return number;
        }

        /** Letter k of the word that stands here, 1 .. 26; 0 behind it. */
        private int letterHere(int k) {
            int at = start + k;
            return at < stop ? octets[at] - 'a' + 1 : 0;
        }

        private static boolean isBlank(int octet) {
            return octet == 10 || octet == 32;
        }

        private static boolean isLetter(int octet) {
            return octet >= 'a' && octet <= 'z';
        }

        private static boolean isDigit(int octet) {
            return octet >= '0' && octet <= '9';
        }
    }

    /** What a text has told; ACTS never change it. */
    private static final class Realm {
        private static final int TOLD_SIZE = 5;

        private int towers = 0;
        private int guards = 0;
        private int gaps = 0;
        private int loans = 0;
        private int bends = MOST_99;
        private final int[] names = new int[(TOWERS_MOST + GUARDS_MOST) * NAME_MOST];
        private final int[] heights = new int[TOWERS_MOST];
        private final int[] costs = new int[TOWERS_MOST];
        private final int[] gapBits = new int[TOWERS_MOST];
        private final int[] toldBits = new int[TOWERS_MOST];
        private final int[] guardTowers = new int[GUARDS_MOST];
        private final int[] legs = new int[GUARDS_MOST];
        private final int[] ropes = new int[GUARDS_MOST];
        private final int[] odds = new int[LEGS_MOST + 1];
        private final int[] told = new int[TOLD_MOST * TOLD_SIZE];

        private void clear() {
            towers = 0;
            guards = 0;
            gaps = 0;
            loans = 0;
            bends = MOST_99;
            for (int legsOf = 0; legsOf <= LEGS_MOST; legsOf++) {
                odds[legsOf] = 0;
            }
        }

        private int letterOf(int slot, int k) {
            return names[slot * NAME_MOST + k];
        }

        private int guardsOf(int tower) {
            int count = 0;
            for (int g = 0; g < guards; g++) {
                if (guardTowers[g] == tower) {
                    count++;
                }
            }
            return count;
        }

        /** Who has the least legs decides whether a TOWER is HELD; NONE without GUARDS. */
        private int leastLegs(int tower) {
            int least = NONE;
            for (int g = 0; g < guards; g++) {
                if (guardTowers[g] == tower && (least == NONE || legs[g] < least)) {
                    least = legs[g];
                }
            }
            return least;
        }

        private void addTower(int height) {
            heights[towers] = height;
            costs[towers] = 1;
            gapBits[towers] = 0;
            toldBits[towers] = 0;
            towers++;
        }

        private void addGuard(int tower, int legsOf, int ropeOf) {
            guardTowers[guards] = tower;
            legs[guards] = legsOf;
            ropes[guards] = ropeOf;
            guards++;
        }

        private void addLoan(int tower, int step, int to, int days, int rent) {
            int at = loans * TOLD_SIZE;
            told[at] = tower;
            told[at + 1] = step;
            told[at + 2] = to;
            told[at + 3] = days;
            told[at + 4] = rent;
            toldBits[tower] |= bit(step);
            loans++;
        }
    }

    /** Reads a REALM from the tape, up to the first FAULT, into one of its own: it may be refused. */
    private static final class RealmReader {
        private static final String OWN_WORDS =
                "tower steps wood costs gap of guard legs rope loan to days rent bends enemy odds ";
        private static final int W_TOWER = 0;
        private static final int W_STEPS = 1;
        private static final int W_WOOD = 2;
        private static final int W_COSTS = 3;
        private static final int W_GAP = 4;
        private static final int W_OF = 5;
        private static final int W_GUARD = 6;
        private static final int W_LEGS = 7;
        private static final int W_ROPE = 8;
        private static final int W_LOAN = 9;
        private static final int W_TO = 10;
        private static final int W_DAYS = 11;
        private static final int W_RENT = 12;
        private static final int W_BENDS = 13;
        private static final int W_ENEMY = 14;
        private static final int W_ODDS = 15;

        private final Tape tape;
        private Realm realm = new Realm();

        private RealmReader(Tape from) {
            tape = from;
        }

        /** How many STATEMENTS; NONE with a FAULT. */
        private int read() {
            realm.clear();
            tape.rewind();
            for (int count = 0; count <= STATEMENTS_MOST; count++) {
                if (tape.kind == Tape.AT_END) {
                    return count;
                }
                if (count == STATEMENTS_MOST) {
                    tape.fail(TOO_MANY, tape.start);
                    return NONE;
                }
                if (!readStatement() || !tape.takeSign(';')) {
                    return NONE;
                }
            }
            return NONE;
        }

        private boolean readStatement() {
            int place = tape.start;
            int word = tape.wordAmong(OWN_WORDS);
            if (tooMany(word)) {
                return tape.fail(TOO_MANY, place);
            }
            switch (word) {
                case W_TOWER: return readTower();
                case W_WOOD: return readWood();
                case W_GAP: return readGap();
                case W_GUARD: return readGuard();
                case W_LOAN: return readLoan();
                case W_BENDS: return readBends();
                case W_ENEMY: return readEnemy();
                default: return tape.failHere();
            }
        }

        private boolean tooMany(int word) {
            switch (word) {
                case W_TOWER: return realm.towers >= TOWERS_MOST;
                case W_GAP: return realm.gaps >= GAPS_MOST;
                case W_GUARD: return realm.guards >= GUARDS_MOST;
                case W_LOAN: return realm.loans >= TOLD_MOST;
                default: return false;
            }
        }

        private boolean readTower() {
            tape.advance();
            if (!takeNewName(realm.towers) || !takeWord(W_STEPS)) {
                return false;
            }
            int height = takeNumber(STEPS_LEAST, STEPS_MOST);
            if (height == NONE) {
                return false;
            }
            realm.addTower(height);
            return true;
        }

        private boolean readWood() {
            tape.advance();
            int tower = takeTower(NONE);
            if (tower == NONE || !takeWord(W_COSTS)) {
                return false;
            }
            int cost = takeNumber(0, MOST_99);
            if (cost == NONE) {
                return false;
            }
            realm.costs[tower] = cost;
            return true;
        }

        private boolean readGap() {
            tape.advance();
            int step = takeNumber(1, STEPS_MOST);
            if (step == NONE || !takeWord(W_OF)) {
                return false;
            }
            int place = tape.start;
            int tower = takeTower(NONE);
            if (tower == NONE) {
                return false;
            }
            if (step == realm.heights[tower] || !canTake(tower, step)) {
                return tape.fail(NO_NUMBER, place);
            }
            realm.gapBits[tower] |= bit(step);
            realm.gaps++;
            return true;
        }

        private boolean readGuard() {
            tape.advance();
            if (!takeNewName(TOWERS_MOST + realm.guards) || !takeWord(W_OF)) {
                return false;
            }
            int tower = takeTower(NONE);
            if (tower == NONE || !takeWord(W_LEGS)) {
                return false;
            }
            int legs = takeNumber(1, LEGS_MOST);
            if (legs == NONE || !takeWord(W_ROPE)) {
                return false;
            }
            int rope = takeNumber(0, ROPE_MOST);
            if (rope == NONE) {
                return false;
            }
            realm.addGuard(tower, legs, rope);
            return true;
        }

        private boolean readLoan() {
            tape.advance();
            int step = takeNumber(1, STEPS_MOST);
            if (step == NONE || !takeWord(W_OF)) {
                return false;
            }
            int place = tape.start;
            int tower = takeTower(NONE);
            if (tower == NONE) {
                return false;
            }
            if (!canTake(tower, step)) {
                return tape.fail(NO_NUMBER, place);
            }
            if (!takeWord(W_TO)) {
                return false;
            }
            int to = takeTower(tower);
            if (to == NONE || !takeWord(W_DAYS)) {
                return false;
            }
            int days = takeNumber(1, MOST_99);
            if (days == NONE || !takeWord(W_RENT)) {
                return false;
            }
            int rent = takeNumber(0, MOST_99);
            if (rent == NONE) {
                return false;
            }
            realm.addLoan(tower, step, to, days, rent);
            return true;
        }

        private boolean readBends() {
            tape.advance();
            int bends = takeNumber(1, MOST_99);
            if (bends == NONE) {
                return false;
            }
            realm.bends = bends;
            return true;
        }

        private boolean readEnemy() {
            tape.advance();
            int place = tape.start;
            int legs = takeNumber(1, LEGS_MOST);
            if (legs == NONE) {
                return false;
            }
            if (realm.odds[legs] != 0) {
                return tape.fail(NO_NUMBER, place);
            }
            if (!takeWord(W_ODDS)) {
                return false;
            }
            int odds = takeNumber(1, MOST_99);
            if (odds == NONE) {
                return false;
            }
            realm.odds[legs] = odds;
            return true;
        }

        private boolean canTake(int tower, int step) {
            int taken = realm.gapBits[tower] | realm.toldBits[tower];
            return step <= realm.heights[tower] && (taken & bit(step)) == 0;
        }

        private boolean takeWord(int word) {
            if (tape.wordAmong(OWN_WORDS) != word) {
                return tape.failHere();
            }
            tape.advance();
            return true;
        }

        private int takeNumber(int least, int most) {
            int number = tape.numberHere();
            if (number == NONE) {
                return NONE;
            }
            if (number < least || number > most) {
                tape.fail(NO_NUMBER, tape.start);
                return NONE;
            }
            tape.advance();
            return number;
        }

        private boolean canBeName() {
            if (tape.kind != Tape.WORD || tape.wordAmong(OWN_WORDS) != NONE) {
                return tape.failHere();
            }
            if (tape.stop - tape.start > NAME_MOST) {
                return tape.fail(NO_TEXT, tape.start + NAME_MOST);
            }
            return true;
        }

        private boolean takeNewName(int slot) {
            if (!canBeName()) {
                return false;
            }
            if (towerNamedHere() != NONE || guardNamedHere()) {
                return tape.fail(NO_NAME, tape.start);
            }
            for (int k = 0; k < NAME_MOST; k++) {
                realm.names[slot * NAME_MOST + k] = tape.letterHere(k);
            }
            tape.advance();
            return true;
        }

        /** The TOWER named here, another than one; NONE with a FAULT. */
        private int takeTower(int other) {
            if (!canBeName()) {
                return NONE;
            }
            int tower = towerNamedHere();
            if (tower == NONE || tower == other) {
                tape.fail(NO_NAME, tape.start);
                return NONE;
            }
            tape.advance();
            return tower;
        }

        private int towerNamedHere() {
            for (int t = 0; t < realm.towers; t++) {
                if (isNameHere(t)) {
                    return t;
                }
            }
            return NONE;
        }

        private boolean guardNamedHere() {
            for (int g = 0; g < realm.guards; g++) {
                if (isNameHere(TOWERS_MOST + g)) {
                    return true;
                }
            }
            return false;
        }

        private boolean isNameHere(int slot) {
            for (int k = 0; k < NAME_MOST; k++) {
                if (realm.letterOf(slot, k) != tape.letterHere(k)) {
                    return false;
                }
            }
            return true;
        }
    }

    /** All that ACTS change, in one row, so that an ACT is kept and undone by one copy. */
    private static final class State {
        private static final int LOAN_SIZE = 8;
        private static final int OF = 0;
        private static final int STEP = 1;
        private static final int TO = 2;
        private static final int LEFT = 3;
        private static final int RENT = 4;
        private static final int AWAY = 5;
        private static final int FILLS = 6;
        private static final int ENDED = 7;

        private static final int DAY_AT = 0;
        private static final int COUNT_AT = 1;
        private static final int PURSE_AT = 2;
        private static final int THERE_AT = PURSE_AT + TOWERS_MOST;
        private static final int LENT_AT = THERE_AT + TOWERS_MOST;
        private static final int BENT_AT = LENT_AT + TOWERS_MOST;
        private static final int FILLED_AT = BENT_AT + TOWERS_MOST;
        private static final int LOANS_AT = FILLED_AT + TOWERS_MOST;
        private static final int ROW = LOANS_AT + LOANS_MOST * LOAN_SIZE;

        private final int[] row = new int[ROW];

        private void copy(State from) {
            System.arraycopy(from.row, 0, row, 0, ROW);
        }

        private void beginWith(Realm realm) {
            for (int i = 0; i < ROW; i++) {
                row[i] = 0;
            }
            for (int t = 0; t < realm.towers; t++) {
                int all = (1 << realm.heights[t]) - 1;
                row[THERE_AT + t] = all & ~realm.gapBits[t];
            }
            int[] told = realm.told;
            for (int i = 0; i < realm.loans; i++) {
                int at = i * Realm.TOLD_SIZE;
                startLoan(realm, told[at], told[at + 1], told[at + 2], told[at + 3], told[at + 4]);
            }
        }

        private int today() {
            return row[DAY_AT];
        }

        private int loans() {
            return row[COUNT_AT];
        }

        private int inPurse(int tower) {
            return row[PURSE_AT + tower];
        }

        private int thereIn(int tower) {
            return row[THERE_AT + tower];
        }

        private int bentIn(int tower) {
            return row[BENT_AT + tower];
        }

        private int filledIn(int tower) {
            return row[FILLED_AT + tower];
        }

        private int standing(int tower) {
            return row[THERE_AT + tower] | row[FILLED_AT + tower];
        }

        private int ofLoan(int loan, int what) {
            return row[LOANS_AT + loan * LOAN_SIZE + what];
        }

        private boolean hasEnded(int loan) {
            return ofLoan(loan, ENDED) == 1;
        }

        private int howIs(int tower, int step) {
            int one = bit(step);
            if ((row[THERE_AT + tower] & one) != 0) {
                return THERE;
            }
            if ((row[LENT_AT + tower] & one) != 0) {
                return LENT;
            }
            return (row[BENT_AT + tower] & one) != 0 ? BENT : MISSING;
        }

        private boolean isHeld(Realm realm, int tower) {
            int legs = realm.leastLegs(tower);
            int height = realm.heights[tower];
            return legs == NONE || climb(standing(tower), height, legs, 0) == height;
        }

        private int heldTowers(Realm realm) {
            int count = 0;
            for (int t = 0; t < realm.towers; t++) {
                if (isHeld(realm, t)) {
                    count++;
                }
            }
            return count;
        }

        private int bentSteps() {
            int count = 0;
            for (int t = 0; t < TOWERS_MOST; t++) {
                count += Integer.bitCount(row[BENT_AT + t]);
            }
            return count;
        }

        private int openLoans() {
            int count = 0;
            for (int i = 0; i < loans(); i++) {
                if (!hasEnded(i)) {
                    count++;
                }
            }
            return count;
        }

        private int stepsInYards() {
            int count = 0;
            for (int i = 0; i < loans(); i++) {
                if (!hasEnded(i) && ofLoan(i, FILLS) == 0) {
                    count++;
                }
            }
            return count;
        }

        private int loanThatFills(int tower, int step) {
            for (int i = 0; i < loans(); i++) {
                if (!hasEnded(i) && ofLoan(i, TO) == tower && ofLoan(i, FILLS) == step) {
                    return i;
                }
            }
            return NONE;
        }

        private int loanThatLends(int tower, int step) {
            for (int i = 0; i < loans(); i++) {
                if (!hasEnded(i) && ofLoan(i, OF) == tower && ofLoan(i, STEP) == step) {
                    return i;
                }
            }
            return NONE;
        }

        private int lentMoreThanBorrowed(int tower) {
            int more = 0;
            for (int i = 0; i < loans(); i++) {
                if (!hasEnded(i) && ofLoan(i, OF) == tower) {
                    more++;
                }
                if (!hasEnded(i) && ofLoan(i, TO) == tower) {
                    more--;
                }
            }
            return more;
        }

        /** A bit for each TOWER to which one has lent what has not come back. */
        private int borrowersOf(int tower) {
            int borrowers = 0;
            for (int i = 0; i < loans(); i++) {
                if (!hasEnded(i) && ofLoan(i, OF) == tower) {
                    borrowers |= 1 << ofLoan(i, TO);
                }
            }
            return borrowers;
        }

        private int rentsWithin(int tower, int days) {
            int sum = 0;
            for (int i = 0; i < loans(); i++) {
                int paid = hasEnded(i) ? 0 : ofLoan(i, RENT) * Math.min(days, ofLoan(i, LEFT));
                if (ofLoan(i, OF) == tower) {
                    sum += paid;
                }
                if (ofLoan(i, TO) == tower) {
                    sum -= paid;
                }
            }
            return sum;
        }

        private int startLoan(Realm realm, int tower, int step, int to, int days, int rent) {
            int loan = loans();
            row[THERE_AT + tower] &= ~bit(step);
            row[LENT_AT + tower] |= bit(step);
            int fills = lowestOpen(to, realm.heights[to]);
            if (fills != 0) {
                row[FILLED_AT + to] |= bit(fills);
            }
            int at = LOANS_AT + loan * LOAN_SIZE;
            row[at + OF] = tower;
            row[at + STEP] = step;
            row[at + TO] = to;
            row[at + LEFT] = days;
            row[at + RENT] = rent;
            row[at + AWAY] = 0;
            row[at + FILLS] = fills;
            row[at + ENDED] = 0;
            row[COUNT_AT] = loan + 1;
            return loan;
        }

        private int lowestOpen(int tower, int height) {
            int stand = standing(tower);
            for (int s = 1; s <= height; s++) {
                if ((stand & bit(s)) == 0) {
                    return s;
                }
            }
            return 0;
        }

        private void endLoan(int loan, int bends) {
            int at = LOANS_AT + loan * LOAN_SIZE;
            int tower = row[at + OF];
            int one = bit(row[at + STEP]);
            row[LENT_AT + tower] &= ~one;
            int home = row[at + AWAY] >= bends ? BENT_AT : THERE_AT;
            row[home + tower] |= one;
            if (row[at + FILLS] != 0) {
                row[FILLED_AT + row[at + TO]] &= ~bit(row[at + FILLS]);
            }
            row[at + FILLS] = 0;
            row[at + ENDED] = 1;
        }

        private void straighten(int tower, int step, int cost) {
            row[BENT_AT + tower] &= ~bit(step);
            row[THERE_AT + tower] |= bit(step);
            row[PURSE_AT + tower] -= cost;
        }

        /** How many LOANS ENDED. */
        private int passDay(int bends) {
            int ended = 0;
            for (int i = 0; i < loans(); i++) {
                if (hasEnded(i)) {
                    continue;
                }
                int at = LOANS_AT + i * LOAN_SIZE;
                row[PURSE_AT + row[at + TO]] -= row[at + RENT];
                row[PURSE_AT + row[at + OF]] += row[at + RENT];
                row[at + AWAY]++;
                row[at + LEFT]--;
                if (row[at + LEFT] == 0) {
                    endLoan(i, bends);
                    ended++;
                }
            }
            row[DAY_AT]++;
            return ended;
        }
    }

    /** The rows ahead of the latest ACTS, the oldest one overwritten first. */
    private static final class History {
        private final int[] rows = new int[ACTS_KEPT * State.ROW];
        private int next = 0;
        private int kept = 0;

        private void forget() {
            kept = 0;
        }

        private void keep(State state) {
            System.arraycopy(state.row, 0, rows, next * State.ROW, State.ROW);
            next = (next + 1) % ACTS_KEPT;
            kept = Math.min(kept + 1, ACTS_KEPT);
        }

        private boolean takeBack(State state) {
            if (kept == 0) {
                return false;
            }
            next = (next + ACTS_KEPT - 1) % ACTS_KEPT;
            kept--;
            System.arraycopy(rows, next * State.ROW, state.row, 0, State.ROW);
            return true;
        }
    }

    /**
     * Ways up a TOWER whose STEPS have prices (NONE: not to be stood on). A price of UNIT and a bit
     * makes the least sum the fewest STEPS, and of like ones the least bits.
     */
    private static final class Prices {
        private static final int UNIT = 1 << LOANS_MOST;

        private final int[] price = new int[STEPS_MOST + 1];
        private final int[] best = new int[STEPS_MOST + 1];
        private final int[] ways = new int[STEPS_MOST + 1];

        private void forFilling(State state, int tower, int height) {
            int stand = state.standing(tower);
            for (int s = 1; s <= height; s++) {
                price[s] = (stand & bit(s)) != 0 ? 0 : UNIT + bit(s);
            }
        }

        /** The bit is taken off: the least bits lent are the greatest bits kept. */
        private void forKeeping(State state, int tower, int height) {
            int there = state.thereIn(tower);
            int filled = state.filledIn(tower);
            for (int s = 1; s <= height; s++) {
                boolean stays = (filled & bit(s)) != 0 || s == height;
                int own = (there & bit(s)) != 0 ? UNIT - bit(s) : NONE;
                price[s] = stays ? 0 : own;
            }
        }

        private void forRefits(State state, int tower, int height) {
            int stand = state.standing(tower);
            int bent = state.bentIn(tower);
            for (int s = 1; s <= height; s++) {
                int mended = (bent & bit(s)) != 0 ? 1 : NONE;
                price[s] = (stand & bit(s)) != 0 ? 0 : mended;
            }
        }

        private void forLoansBack(State state, int tower, int height) {
            int stand = state.standing(tower);
            for (int s = 1; s <= height; s++) {
                int loan = state.loanThatLends(tower, s);
                int given = loan == NONE ? NONE : UNIT + (1 << loan);
                price[s] = (stand & bit(s)) != 0 ? 0 : given;
            }
        }

        /** The least sum of prices on a way to the TOP; NONE without a way. */
        private int cheapest(int height, int legs) {
            best[0] = 0;
            for (int s = 1; s <= height; s++) {
                best[s] = NONE;
                for (int from = Math.max(0, s - legs); from < s; from++) {
                    if (price[s] == NONE || best[from] == NONE) {
                        continue;
                    }
                    int sum = best[from] + price[s];
                    if (best[s] == NONE || sum < best[s]) {
                        best[s] = sum;
                    }
                }
            }
            return best[height];
        }

        /**
         * The least sum of prices, and in ways[height] how many sets have as few STEPS. A set is
         * counted once, as it is met by one way alone: that which skips no STEP without a price.
         */
        private int fewestSets(int height, int legs) {
            best[0] = 0;
            ways[0] = 1;
            for (int s = 1; s <= height; s++) {
                best[s] = NONE;
                ways[s] = 0;
                if (price[s] == NONE) {
                    continue;
                }
                for (int from = Math.max(0, s - legs); from < s; from++) {
                    join(from, s);
                }
                if (price[s] == 0) {
                    closeBelow(s);
                }
            }
            return best[height];
        }

        private void closeBelow(int step) {
            for (int s = 0; s < step; s++) {
                best[s] = NONE;
            }
        }

        private void join(int from, int to) {
            if (best[from] == NONE) {
                return;
            }
            int sum = best[from] + price[to];
            if (best[to] == NONE || sum / UNIT < best[to] / UNIT) {
                best[to] = sum;
                ways[to] = ways[from];
            } else if (sum / UNIT == best[to] / UNIT) {
                best[to] = Math.min(best[to], sum);
                ways[to] += ways[from];
            }
        }
    }

    /** A QUESTION, read into a row of signs in which each stands behind what it works on. */
    private static final class Question {
        private static final String VERBS = "first last often total most least ";
        private static final int FIRST = 0;
        private static final int LAST = 1;
        private static final int OFTEN = 2;
        private static final int TOTAL = 3;
        private static final int MOST = 4;
        private static final int LEAST = 5;

        private static final String PARTS = "day held lent bent yard purse stands reach min max ";
        private static final int P_DAY = 0;
        private static final int P_HELD = 1;
        private static final int P_LENT = 2;
        private static final int P_BENT = 3;
        private static final int P_YARD = 4;
        private static final int P_PURSE = 5;
        private static final int P_STANDS = 6;
        private static final int P_REACH = 7;
        private static final int P_MIN = 8;
        private static final int P_MAX = 9;
        private static final int P_PLUS = 10;
        private static final int P_MINUS = 11;
        private static final int P_TIMES = 12;
        private static final int P_BY = 13;
        private static final int P_LESS = 14;
        private static final int P_MORE = 15;
        private static final int P_SAME = 16;
        private static final int P_AND = 17;
        private static final int P_OR = 18;
        private static final int P_NOT = 19;

        /** Far above what six open ones, each with five values waiting, can need. */
        private static final int STACK_MOST = 64;

        private final Tape tape;
        private final int[] code = new int[TAPE_MOST];
        private final int[] stack = new int[STACK_MOST];
        private int size = 0;
        private int verb = NONE;
        private int open = 0;
        private int heldThen = 0;
        private int lentThen = 0;
        private int bentThen = 0;
        private int yardThen = 0;

        private Question(Tape from) {
            tape = from;
        }

        private boolean read() {
            tape.rewind();
            size = 0;
            open = 0;
            verb = tape.wordAmong(VERBS);
            if (verb == NONE) {
                return tape.failHere();
            }
            tape.advance();
            boolean whole = verb <= OFTEN ? readTest() : readSum();
            return whole && (tape.kind == Tape.AT_END || tape.failHere());
        }

        /** A number stands as itself, a sign below 0. */
        private boolean write(int mark) {
            if (size < code.length) {
                code[size] = mark;
                size++;
            }
            return true;
        }

        private boolean writeSign(int part) {
            return write(-1 - part);
        }

        private boolean openOne() {
            if (open >= OPEN_MOST) {
                return tape.fail(TOO_DEEP, tape.start);
            }
            open++;
            tape.advance();
            return true;
        }

        private boolean closeWith(char sign) {
            open--;
            return tape.takeSign(sign);
        }

        private boolean readTest() {
            if (!readBoth()) {
                return false;
            }
            for (int i = 0; i < TAPE_MOST && tape.wordAmong("or ") != NONE; i++) {
                tape.advance();
                if (!readBoth()) {
                    return false;
                }
                writeSign(P_OR);
            }
            return true;
        }

        private boolean readBoth() {
            if (!readFact()) {
                return false;
            }
            for (int i = 0; i < TAPE_MOST && tape.wordAmong("and ") != NONE; i++) {
                tape.advance();
                if (!readFact()) {
                    return false;
                }
                writeSign(P_AND);
            }
            return true;
        }

        private boolean readFact() {
            if (tape.wordAmong("all ") != NONE) {
                tape.advance();
                return write(1);
            }
            if (tape.wordAmong("not ") != NONE) {
                if (!openOne() || !readFact()) {
                    return false;
                }
                open--;
                return writeSign(P_NOT);
            }
            if (tape.isSign('[')) {
                return openOne() && readTest() && closeWith(']');
            }
            return readComparison();
        }

        private boolean readComparison() {
            if (!readSum()) {
                return false;
            }
            int sign = NONE;
            if (tape.isSign('<')) {
                sign = P_LESS;
            } else if (tape.isSign('>')) {
                sign = P_MORE;
            } else if (tape.isSign('=')) {
                sign = P_SAME;
            }
            if (sign == NONE) {
                return tape.failHere();
            }
            tape.advance();
            return readSum() && writeSign(sign);
        }

        private boolean readSum() {
            if (!readProduct()) {
                return false;
            }
            for (int i = 0; i < TAPE_MOST && (tape.isSign('+') || tape.isSign('-')); i++) {
                int sign = tape.isSign('+') ? P_PLUS : P_MINUS;
                tape.advance();
                if (!readProduct()) {
                    return false;
                }
                writeSign(sign);
            }
            return true;
        }

        private boolean readProduct() {
            if (!readPart()) {
                return false;
            }
            for (int i = 0; i < TAPE_MOST && (tape.isSign('*') || tape.isSign('/')); i++) {
                int sign = tape.isSign('*') ? P_TIMES : P_BY;
                tape.advance();
                if (!readPart()) {
                    return false;
                }
                writeSign(sign);
            }
            return true;
        }

        private boolean readPart() {
            if (tape.kind == Tape.NUMBER) {
                return readNumber();
            }
            if (tape.isSign('(')) {
                return openOne() && readSum() && closeWith(')');
            }
            int part = tape.wordAmong(PARTS);
            if (part == NONE) {
                return tape.failHere();
            }
            if (part <= P_YARD) {
                tape.advance();
                return writeSign(part);
            }
            if (part <= P_REACH) {
                if (!openOne() || !readPart()) {
                    return false;
                }
                open--;
                return writeSign(part);
            }
            tape.advance();
            return readPair() && writeSign(part);
        }

        private boolean readNumber() {
            int number = tape.numberHere();
            if (number == NONE) {
                return false;
            }
            tape.advance();
            return write(number);
        }

        private boolean readPair() {
            if (!tape.isSign('(')) {
                return tape.failHere();
            }
            return openOne() && readSum() && tape.takeSign(',') && readSum() && closeWith(')');
        }

        /** The state given goes through all the DAYS. */
        private long answer(Realm realm, State then, int lastDay) {
            long found = NONE;
            long sum = 0;
            long best = 0;
            int firstDay = then.today();
            countAll(realm, then);
            for (int day = firstDay; day <= lastDay; day++) {
                int value = valueThen(realm, then);
                sum += value;
                boolean better = verb == MOST ? value > best : value < best;
                if (day == firstDay || better) {
                    best = value;
                }
                if (value != 0 && (verb == LAST || found == NONE)) {
                    found = day;
                }
                // a DAY on which no LOAN ENDS changes PURSES alone
                if (then.passDay(realm.bends) > 0) {
                    countAll(realm, then);
                }
            }
            switch (verb) {
                case FIRST:
                case LAST: return found;
                case OFTEN:
                case TOTAL: return sum;
                case MOST:
                case LEAST: return best;
                default: return NOTHING;
            }
        }

        private void countAll(Realm realm, State then) {
            heldThen = then.heldTowers(realm);
            lentThen = then.openLoans();
            bentThen = then.bentSteps();
            yardThen = then.stepsInYards();
        }

        private int valueThen(Realm realm, State then) {
            int top = 0;
            for (int i = 0; i < size; i++) {
                int part = -1 - code[i];
                if (part < 0 || part <= P_YARD) {
                    if (top < stack.length) {
                        stack[top] = part < 0 ? code[i] : plainPart(part, then.today());
                        top++;
                    }
                } else if (part <= P_REACH || part == P_NOT) {
                    if (top >= 1) {
                        stack[top - 1] = ofOne(part, stack[top - 1], realm, then);
                    }
                } else if (top >= 2) {
                    top--;
                    stack[top - 1] = ofTwo(part, stack[top - 1], stack[top]);
                }
            }
            return top > 0 ? stack[0] : 0;
        }

        private int plainPart(int part, int day) {
            switch (part) {
                case P_DAY: return day;
                case P_HELD: return heldThen;
                case P_LENT: return lentThen;
                case P_BENT: return bentThen;
                default: return yardThen;
            }
        }

        private static int ofOne(int part, int value, Realm realm, State then) {
            boolean isTower = value >= 0 && value < realm.towers;
            switch (part) {
                case P_PURSE: return isTower ? bounded(then.inPurse(value)) : 0;
                case P_STANDS: return isTower ? Integer.bitCount(then.standing(value)) : 0;
                case P_REACH: return reachThen(value, realm, then);
                default: return value == 0 ? 1 : 0;
            }
        }

        private static int reachThen(int guard, Realm realm, State then) {
            if (guard < 0 || guard >= realm.guards) {
                return 0;
            }
            int tower = realm.guardTowers[guard];
            return climb(then.standing(tower), realm.heights[tower], realm.legs[guard], 0);
        }

        private static int ofTwo(int part, int left, int right) {
            switch (part) {
                case P_MIN: return Math.min(left, right);
                case P_MAX: return Math.max(left, right);
                case P_PLUS: return bounded((long) left + right);
                case P_MINUS: return bounded((long) left - right);
                case P_TIMES: return bounded((long) left * right);
                case P_BY: return right == 0 ? 0 : Math.floorDiv(left, right);
                case P_LESS: return left < right ? 1 : 0;
                case P_MORE: return left > right ? 1 : 0;
                case P_SAME: return left == right ? 1 : 0;
                case P_AND: return left != 0 && right != 0 ? 1 : 0;
                default: return left != 0 || right != 0 ? 1 : 0;
            }
        }

        private static int bounded(long value) {
            return (int) Math.max(-VALUE_MOST, Math.min(VALUE_MOST, value));
        }
    }

    /** The bytes of the latest IMAGE. */
    private static final class Picture {
        private static final int SIZE_MOST = 2 + TOWERS_MOST * (4 + STEPS_MOST)
                + 1 + LOANS_MOST * State.LOAN_SIZE + 1;
        private static final int CHECK_BEGIN = 127;
        private static final int CHECK_TIMES = 3;
        private static final int CHECK_MODULUS = 249;

        private final int[] octets = new int[SIZE_MOST];
        private int size = 0;

        private int draw(Realm realm, State state) {
            size = 0;
            putBytes(state.today(), 2);
            for (int t = 0; t < realm.towers; t++) {
                putBytes(state.inPurse(t), 4);
                for (int s = 1; s <= realm.heights[t]; s++) {
                    putBytes(state.howIs(t, s), 1);
                }
            }
            putBytes(state.loans(), 1);
            for (int i = 0; i < state.loans(); i++) {
                for (int what = 0; what < State.LOAN_SIZE; what++) {
                    putBytes(state.ofLoan(i, what), 1);
                }
            }
            putBytes(check(), 1);
            return size;
        }

        private int check() {
            int c = CHECK_BEGIN;
            for (int i = 0; i < size; i++) {
                c = (CHECK_TIMES * c + octets[i]) % CHECK_MODULUS;
            }
            return c;
        }

        private void putBytes(int number, int count) {
            for (int i = count - 1; i >= 0; i--) {
                if (size < octets.length) {
                    octets[size] = (number >>> (8 * i)) & 255;
                    size++;
                }
            }
        }
    }
}
