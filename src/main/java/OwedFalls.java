import java.util.Arrays;

/** A house whose staircases owe falls: what its text tells, what is done in it, and what can be asked of it. */
public final class OwedFalls {
    public static final int BAD = -1, STATE = -2, FULL = -3, NONE = -9;
    public static final int NO = -1000000;

    private static final int FLOORS = 7;
    private static final int MOST_STAIRS = 7;
    private static final int MOST_STEPS = 99;
    private static final int MOST_OWED = 40;
    private static final int MOST_PEOPLE = 5;
    private static final int MOST_CARE = 10;
    private static final int MOST_HURT_BY_FALL = 9;
    private static final int MOST_DOLLS = 9;
    private static final int MOST_PAIR = 9;
    private static final int FIRST_DOLLS = 3;
    private static final int FIRST_PAIR = 3;

    private static final int MOST_DUE = 999;
    private static final int MOST_HURT = 999999;
    private static final int MOST_SOLD = 99;
    private static final int LAST_YEAR = 99;
    private static final int MOST_UNDONE = 10;
    private static final int IMAGES = 2;

    private static final int MOST_BYTES = 200;
    private static final int MOST_BYTE = 255;
    private static final int MOST_NUMBER = 99;
    private static final int FAULT_AT_0 = -10;

    private static final int WHOLE = 2;
    private static final int HALF = 1;
    private static final int MOST_ASKED = 99;
    private static final int MOST_TIMES = 6;
    private static final int DUE_OF_ALL = -1;
    private static final int COINS_OF_ALL = -2;
    // Far above every cost that can come up, and low enough to be added to.
    private static final int NEVER = 1000000000;

    private final Reader reader;
    private final Ledger ledger;
    private final Ledger[] images;
    private final boolean[] kept;
    private final Ways ways;
    private final Payments payments;
    private final Rings rings;
    private final Suspects suspects;
    private Plan plan;
    private Plan draft;
    private long traced;

    public OwedFalls() {
        reader = new Reader();
        ledger = new Ledger();
        images = new Ledger[IMAGES];
        for (int i = 0; i < IMAGES; i++) {
            images[i] = new Ledger();
        }
        kept = new boolean[IMAGES];
        ways = new Ways();
        payments = new Payments();
        rings = new Rings();
        suspects = new Suspects();
        plan = new Plan();
        draft = new Plan();
    }

    // ---- the house

    public int type(int c) {
        if (c < 0 || c > MOST_BYTE) {
            return BAD;
        }
        return reader.take(c) ? reader.length : FULL;
    }

    public int clear() {
        int had = reader.length;
        reader.empty();
        return had;
    }

    public int house() {
        // Read into the draft, so that a fault leaves the plan as it is.
        int items = reader.readInto(draft);
        if (items < 0) {
            return items;
        }
        Plan told = draft;
        draft = plan;
        plan = told;
        reader.empty();
        ledger.begin(plan);
        for (int i = 0; i < IMAGES; i++) {
            kept[i] = false;
        }
        return items;
    }

    public int stair(int s, int what) {
        if (!plan.hasStair(s)) {
            return BAD;
        }
        switch (what) {
            case 0: return plan.floorA[s];
            case 1: return plan.floorB[s];
            case 2: return plan.steps[s];
            case 3: return plan.owes[s];
            case 4: return ledger.present.due[s];
            case 5: return ledger.present.thrown[s];
            case 6: return priceOf(s);
            default: return BAD;
        }
    }

    public int person(int p, int what) {
        if (!plan.hasPerson(p)) {
            return BAD;
        }
        switch (what) {
            case 0: return plan.child[p];
            case 1: return plan.care[p];
            case 2: return plan.hurtBy[p];
            default: return BAD;
        }
    }

    public int bond(int s, int t) {
        return plan.hasTwoStairs(s, t) ? ledger.present.bonds[bondAt(s, t)] : BAD;
    }

    // ---- what is done

    public int falls(int p, int s) {
        if (!plan.hasPerson(p) || !plan.hasStair(s)) {
            return BAD;
        }
        ledger.remember();
        ledger.present.addHurt(plan.hurtBy[p]);
        return ledger.present.lessen(s, plan.halvesOf(p));
    }

    public int together(int p, int q, int s) {
        if (!plan.hasPerson(p) || !plan.hasPerson(q) || p == q || !plan.hasStair(s)) {
            return BAD;
        }
        ledger.remember();
        ledger.present.addHurt(plan.hurtBy[p] + plan.hurtBy[q]);
        return ledger.present.lessen(s, plan.pair);
    }

    public int throwsDoll(int s) {
        if (!plan.hasStair(s)) {
            return BAD;
        }
        if (ledger.present.thrown[s] >= plan.dolls) {
            return STATE;
        }
        ledger.remember();
        ledger.present.thrown[s]++;
        return ledger.present.lessen(s, HALF);
    }

    public int sells(int s, int t, int n) {
        if (!plan.hasTwoStairs(s, t) || n < 1 || n > MOST_SOLD) {
            return BAD;
        }
        Moment now = ledger.present;
        if (now.due[s] < n) {
            return STATE;
        }
        if (now.due[t] + n > MOST_DUE) {
            return FULL;
        }
        ledger.remember();
        now.due[t] += n;
        now.bonds[bondAt(s, t)] += n;
        return now.lessen(s, n);
    }

    public int redeems(int s) {
        if (!plan.hasStair(s)) {
            return BAD;
        }
        int was = ledger.present.due[s];
        if (was == 0) {
            return STATE;
        }
        ledger.remember();
        ledger.present.due[s] = 0;
        return was;
    }

    public int ends() {
        if (ledger.present.year >= LAST_YEAR) {
            return STATE;
        }
        ledger.remember();
        ledger.present.endYear(plan);
        return ledger.present.dueOfAll(plan.stairs);
    }

    public int undo() {
        return ledger.takeBack() ? ledger.known : STATE;
    }

    public int now(int what) {
        switch (what) {
            case 0: return ledger.present.year;
            case 1: return ledger.present.dueOfAll(plan.stairs);
            case 2: return stairsPaidOff();
            case 3: return ledger.present.hurt;
            case 4: return dearest();
            case 5: return rings.strikeAll(ledger.present.bonds, plan.stairs);
            default: return BAD;
        }
    }

    // ---- ways

    public int surest(int from, int to, int what) {
        if (!isFloor(from) || !isFloor(to) || what < 0 || what > 2) {
            return BAD;
        }
        ways.measure(plan, ledger.present, to, NONE);
        switch (what) {
            case 0: return ways.dueFrom(from);
            case 1: return ways.stepsFrom(from);
            default: return ways.firstFrom(plan, ledger.present, from);
        }
    }

    public int bars(int from, int to) {
        if (!isFloor(from) || !isFloor(to)) {
            return BAD;
        }
        return ways.barsBetween(plan, ledger.present, from, to);
    }

    // ---- payments

    public int paid(int s, int what) {
        if (!plan.hasStair(s) || what < 0 || what > 1) {
            return BAD;
        }
        return payments.payByFalls(plan, ledger.present.due[s], what == 0);
    }

    public int coins(int n, int s) {
        boolean ofAll = s == DUE_OF_ALL || s == COINS_OF_ALL;
        if (!isAsked(n) || !ofAll && !plan.hasStair(s)) {
            return BAD;
        }
        payments.spend(plan, ledger.present, n);
        if (s == DUE_OF_ALL) {
            return payments.leastDue(n);
        }
        return s == COINS_OF_ALL ? payments.fewestCoins(n) : payments.coinsFor(s, n);
    }

    public int free(int s, int n) {
        if (!plan.hasStair(s) || !isAsked(n)) {
            return BAD;
        }
        return Payments.yearsTillFree(ledger.present.due[s], plan.owes[s], n);
    }

    // ---- who, odds

    public int who(int k, int d, int h, int what) {
        if (k < 0 || k > MOST_TIMES || !isAsked(d) || !isAsked(h)) {
            return BAD;
        }
        if (what < 0 || what > 2) {
            return BAD;
        }
        suspects.search(plan, k, d, h);
        switch (what) {
            case 0: return suspects.found;
            case 1: return suspects.found == 0 ? 0 : suspects.inEach;
            default: return suspects.inSome;
        }
    }

    public int odds(int d, int what) {
        if (!isAsked(d) || what < 0 || what > 1) {
            return BAD;
        }
        return suspects.oddsOf(plan, d, what == 0);
    }

    // ---- kinds, images

    public int mark(int kind, int s) {
        if (!plan.hasStair(s)) {
            return NO;
        }
        switch (kind) {
            case 0: return asStair(s);
            case 1: return asMarble(s);
            case 2: return asLadder(s);
            case 3: return asChurch(s);
            case 4: return asLift(s);
            case 5: return asTower(s);
            default: return NO;
        }
    }

    public int keep(int image) {
        if (!isImage(image)) {
            return BAD;
        }
        images[image].copyFrom(ledger);
        kept[image] = true;
        return ledger.present.year;
    }

    public int back(int image) {
        if (!isImage(image)) {
            return BAD;
        }
        if (!kept[image]) {
            return STATE;
        }
        ledger.copyFrom(images[image]);
        return ledger.present.year;
    }

    public int count(int what) {
        switch (what) {
            case 0: return plan.stairs;
            case 1: return plan.people;
            case 2: return plan.dolls;
            case 3: return plan.pair;
            case 4: return ledger.known;
            case 5: return reader.length;
            default: return BAD;
        }
    }

    public long trace() {
        return traced;
    }

    private static boolean isFloor(int floor) {
        return floor >= 0 && floor < FLOORS;
    }

    private static boolean isAsked(int n) {
        return n >= 0 && n <= MOST_ASKED;
    }

    private static boolean isImage(int image) {
        return image >= 0 && image < IMAGES;
    }

    private static int bondAt(int s, int t) {
        return s * MOST_STAIRS + t;
    }

    private int priceOf(int s) {
        return Math.max(0, 9 * ledger.present.due[s] - plan.steps[s]);
    }

    private int dearest() {
        int dear = NONE;
        for (int s = 0; s < plan.stairs; s++) {
            if (dear == NONE || priceOf(s) > priceOf(dear)) {
                dear = s;
            }
        }
        return dear;
    }

    private int stairsPaidOff() {
        int bits = 0;
        for (int s = 0; s < plan.stairs; s++) {
            if (ledger.present.due[s] == 0) {
                bits |= 1 << s;
            }
        }
        return bits;
    }

    private int asStair(int s) {
        traced += 1;
        return ledger.present.due[s];
    }

    private int asMarble(int s) {
        traced += 10;
        return asStair(s) + plan.steps[s];
    }

    private int asLadder(int s) {
        traced += 100;
        return asStair(s) - ledger.present.thrown[s];
    }

    private int asChurch(int s) {
        traced += 1000;
        return asMarble(s) * 2;
    }

    private int asLift(int s) {
        traced += 10000;
        return asLadder(s) + plan.owes[s];
    }

    private int asTower(int s) {
        traced += 100000;
        return asStair(s) + ledger.present.year;
    }

    /** What the text told: stairs, people, the rules of dolls and of two together. */
    private static final class Plan {
        final int[] floorA = new int[MOST_STAIRS];
        final int[] floorB = new int[MOST_STAIRS];
        final int[] steps = new int[MOST_STAIRS];
        final int[] owes = new int[MOST_STAIRS];
        final int[] child = new int[MOST_PEOPLE];
        final int[] care = new int[MOST_PEOPLE];
        final int[] hurtBy = new int[MOST_PEOPLE];
        int stairs = 0;
        int people = 0;
        int dolls = FIRST_DOLLS;
        int pair = FIRST_PAIR;
        boolean dollsTold = false;
        boolean pairTold = false;

        void forget() {
            stairs = 0;
            people = 0;
            dolls = FIRST_DOLLS;
            pair = FIRST_PAIR;
            dollsTold = false;
            pairTold = false;
        }

        boolean hasStair(int s) {
            return s >= 0 && s < stairs;
        }

        boolean hasTwoStairs(int s, int t) {
            return hasStair(s) && hasStair(t) && s != t;
        }

        boolean hasPerson(int p) {
            return p >= 0 && p < people;
        }

        int halvesOf(int p) {
            return child[p] == 1 ? HALF : WHOLE;
        }
    }

    /** All that changes by what is done, at one time. */
    private static final class Moment {
        final int[] due = new int[MOST_STAIRS];
        final int[] thrown = new int[MOST_STAIRS];
        final int[] bonds = new int[MOST_STAIRS * MOST_STAIRS];
        int hurt = 0;
        int year = 0;

        void begin(Plan plan) {
            System.arraycopy(plan.owes, 0, due, 0, MOST_STAIRS);
            Arrays.fill(thrown, 0);
            Arrays.fill(bonds, 0);
            hurt = 0;
            year = 0;
        }

        void copyFrom(Moment other) {
            System.arraycopy(other.due, 0, due, 0, MOST_STAIRS);
            System.arraycopy(other.thrown, 0, thrown, 0, MOST_STAIRS);
            System.arraycopy(other.bonds, 0, bonds, 0, MOST_STAIRS * MOST_STAIRS);
            hurt = other.hurt;
            year = other.year;
        }

        int lessen(int s, int halves) {
            due[s] = Math.max(0, due[s] - halves);
            return due[s];
        }

        void addHurt(int more) {
            hurt = Math.min(MOST_HURT, hurt + more);
        }

        void endYear(Plan plan) {
            for (int s = 0; s < plan.stairs; s++) {
                due[s] = Math.min(MOST_DUE, due[s] + plan.owes[s]);
            }
            Arrays.fill(thrown, 0);
            Arrays.fill(bonds, 0);
            year++;
        }

        int dueOfAll(int stairs) {
            int sum = 0;
            for (int s = 0; s < stairs; s++) {
                sum += due[s];
            }
            return sum;
        }
    }

    /** The present and what may be undone: the latest moments, in a ring that loses the oldest. */
    private static final class Ledger {
        final Moment present;
        final Moment[] past;
        int known;
        int next;

        Ledger() {
            present = new Moment();
            past = new Moment[MOST_UNDONE];
            for (int i = 0; i < MOST_UNDONE; i++) {
                past[i] = new Moment();
            }
            known = 0;
            next = 0;
        }

        void begin(Plan plan) {
            present.begin(plan);
            known = 0;
            next = 0;
        }

        void remember() {
            past[next].copyFrom(present);
            next = next + 1 < MOST_UNDONE ? next + 1 : 0;
            known = Math.min(MOST_UNDONE, known + 1);
        }

        boolean takeBack() {
            if (known == 0) {
                return false;
            }
            next = next > 0 ? next - 1 : MOST_UNDONE - 1;
            present.copyFrom(past[next]);
            known--;
            return true;
        }

        void copyFrom(Ledger other) {
            present.copyFrom(other.present);
            for (int i = 0; i < MOST_UNDONE; i++) {
                past[i].copyFrom(other.past[i]);
            }
            known = other.known;
            next = other.next;
        }
    }

    /** Holds the text and reads it; the token it stopped at is where the fault is. */
    private static final class Reader {
        private static final int END = 0, WORD = 1, NUMBER = 2, STOP = 3, OTHER = 4;
        private static final int ILL = -1;

        private final int[] bytes = new int[MOST_BYTES];
        int length = 0;
        private int place = 0;
        private int tokenAt = 0;
        private int tokenKind = END;
        private int tokenValue = ILL;

        boolean take(int c) {
            if (length >= MOST_BYTES) {
                return false;
            }
            bytes[length] = c;
            length++;
            return true;
        }

        void empty() {
            length = 0;
        }

        /** How many items the text tells, or the fault's answer, which is below 0. */
        int readInto(Plan plan) {
            plan.forget();
            place = 0;
            int items = 0;
            // Each item takes a byte at least, so there are no more items than bytes.
            for (int i = 0; i <= MOST_BYTES; i++) {
                nextToken();
                if (tokenKind == END) {
                    return items;
                }
                if (!readItem(plan)) {
                    return FAULT_AT_0 - tokenAt;
                }
                items++;
            }
            return items;
        }

        private boolean readItem(Plan plan) {
            if (tokenKind != WORD) {
                return false;
            }
            switch (tokenValue) {
                case 's': return readStair(plan) && readStop();
                case 'p': return readPerson(plan) && readStop();
                case 'd': return readDolls(plan) && readStop();
                case 't': return readPair(plan) && readStop();
                default: return false;
            }
        }

        private boolean readStair(Plan plan) {
            int s = plan.stairs;
            if (s >= MOST_STAIRS || !readNumber(0, FLOORS - 1)) {
                return false;
            }
            plan.floorA[s] = tokenValue;
            if (!readNumber(0, FLOORS - 1) || tokenValue == plan.floorA[s]) {
                return false;
            }
            plan.floorB[s] = tokenValue;
            if (!readNumber(1, MOST_STEPS)) {
                return false;
            }
            plan.steps[s] = tokenValue;
            if (!readNumber(0, MOST_OWED)) {
                return false;
            }
            plan.owes[s] = tokenValue;
            plan.stairs++;
            return true;
        }

        private boolean readPerson(Plan plan) {
            int p = plan.people;
            if (p >= MOST_PEOPLE || !readNumber(0, 1)) {
                return false;
            }
            plan.child[p] = tokenValue;
            if (!readNumber(0, MOST_CARE)) {
                return false;
            }
            plan.care[p] = tokenValue;
            if (!readNumber(0, MOST_HURT_BY_FALL)) {
                return false;
            }
            plan.hurtBy[p] = tokenValue;
            plan.people++;
            return true;
        }

        private boolean readDolls(Plan plan) {
            if (plan.dollsTold || !readNumber(0, MOST_DOLLS)) {
                return false;
            }
            plan.dolls = tokenValue;
            plan.dollsTold = true;
            return true;
        }

        private boolean readPair(Plan plan) {
            if (plan.pairTold || !readNumber(0, MOST_PAIR)) {
                return false;
            }
            plan.pair = tokenValue;
            plan.pairTold = true;
            return true;
        }

        private boolean readNumber(int least, int most) {
            nextToken();
            return tokenKind == NUMBER && tokenValue >= least && tokenValue <= most;
        }

        private boolean readStop() {
            nextToken();
            return tokenKind == STOP;
        }

        private void nextToken() {
            while (place < length && bytes[place] == ' ') {
                place++;
            }
            tokenAt = place;
            tokenValue = ILL;
            if (place >= length) {
                tokenKind = END;
            } else if (isLetter(bytes[place])) {
                takeWord();
            } else if (isDigit(bytes[place])) {
                takeNumber();
            } else {
                tokenKind = bytes[place] == ';' ? STOP : OTHER;
                place++;
            }
        }

        private void takeWord() {
            tokenKind = WORD;
            while (place < length && isLetter(bytes[place])) {
                place++;
            }
            // Longer words begin no item, so only a single letter has a value.
            if (place == tokenAt + 1) {
                tokenValue = bytes[tokenAt];
            }
        }

        private void takeNumber() {
            tokenKind = NUMBER;
            int value = 0;
            while (place < length && isDigit(bytes[place])) {
                // Held just above the greatest number, so that a long row of digits can't wrap around.
                value = Math.min(MOST_NUMBER + 1, value * 10 + bytes[place] - '0');
                place++;
            }
            boolean zeroAhead = bytes[tokenAt] == '0' && place > tokenAt + 1;
            tokenValue = zeroAhead || value > MOST_NUMBER ? ILL : value;
        }

        private static boolean isLetter(int c) {
            return c >= 'a' && c <= 'z';
        }

        private static boolean isDigit(int c) {
            return c >= '0' && c <= '9';
        }
    }

    /** Ways through the house to one floor: DUE and STEPS of the surest, held as one number. */
    private static final class Ways {
        // The STEPS of all stairs together stay below this, so they never reach into DUE.
        private static final int STEP_ROOM = 1000;

        private final int[] cost = new int[FLOORS];

        void measure(Plan plan, Moment now, int to, int without) {
            Arrays.fill(cost, NEVER);
            cost[to] = 0;
            // The surest way never comes to a floor twice, so it has fewer stairs than there are floors.
            for (int round = 1; round < FLOORS; round++) {
                for (int s = 0; s < plan.stairs; s++) {
                    if (s != without) {
                        goBy(plan.floorA[s], plan.floorB[s], weight(plan, now, s));
                        goBy(plan.floorB[s], plan.floorA[s], weight(plan, now, s));
                    }
                }
            }
        }

        private void goBy(int from, int to, int weight) {
            if (cost[to] != NEVER && cost[to] + weight < cost[from]) {
                cost[from] = cost[to] + weight;
            }
        }

        private static int weight(Plan plan, Moment now, int s) {
            return now.due[s] * STEP_ROOM + plan.steps[s];
        }

        int dueFrom(int from) {
            return cost[from] == NEVER ? NONE : cost[from] / STEP_ROOM;
        }

        int stepsFrom(int from) {
            return cost[from] == NEVER ? NONE : cost[from] % STEP_ROOM;
        }

        int firstFrom(Plan plan, Moment now, int from) {
            if (cost[from] == NEVER || cost[from] == 0) {
                return NONE;
            }
            for (int s = 0; s < plan.stairs; s++) {
                int rest = cost[from] - weight(plan, now, s);
                if (plan.floorA[s] == from && cost[plan.floorB[s]] == rest) {
                    return s;
                }
                if (plan.floorB[s] == from && cost[plan.floorA[s]] == rest) {
                    return s;
                }
            }
            return NONE;
        }

        int barsBetween(Plan plan, Moment now, int from, int to) {
            measure(plan, now, to, NONE);
            if (cost[from] == NEVER) {
                return 0;
            }
            int bits = 0;
            for (int s = 0; s < plan.stairs; s++) {
                measure(plan, now, to, s);
                if (cost[from] == NEVER) {
                    bits |= 1 << s;
                }
            }
            return bits;
        }
    }

    /** How stairs are paid: by falls, by coins, by so much a year. */
    private static final class Payments {
        private static final int MOST_BY_FALL = 9;
        // Falls (999 at most) and coins (99 at most) stand below this, HURT and DUE above it.
        private static final int SECOND_ROOM = 1000;
        private static final int ACROBAT_COINS = 3;
        private static final int ACROBAT_HALVES = 4;
        private static final int REDEEM_COINS = 12;

        private final int[] hurtFor = new int[MOST_BY_FALL + 1];
        private final int[] fallsFor = new int[MOST_DUE + 1];
        private final int[][] dueAfter = new int[MOST_STAIRS][REDEEM_COINS + 1];
        private final int[][] best = new int[MOST_STAIRS + 1][MOST_ASKED + 1];

        int payByFalls(Plan plan, int due, boolean asksHurt) {
            gatherFalls(plan);
            fallsFor[0] = 0;
            for (int halves = 1; halves <= due; halves++) {
                fallsFor[halves] = cheapestFor(halves);
            }
            int cheapest = fallsFor[due];
            if (cheapest == NEVER) {
                return NONE;
            }
            return asksHurt ? cheapest / SECOND_ROOM : cheapest % SECOND_ROOM;
        }

        private void gatherFalls(Plan plan) {
            Arrays.fill(hurtFor, NEVER);
            for (int p = 0; p < plan.people; p++) {
                offerFall(plan.halvesOf(p), plan.hurtBy[p]);
                for (int q = 0; q < p; q++) {
                    offerFall(plan.pair, plan.hurtBy[p] + plan.hurtBy[q]);
                }
            }
        }

        private void offerFall(int halves, int hurt) {
            hurtFor[halves] = Math.min(hurtFor[halves], hurt);
        }

        private int cheapestFor(int halves) {
            int least = NEVER;
            for (int counts = 1; counts <= MOST_BY_FALL; counts++) {
                int before = fallsFor[Math.max(0, halves - counts)];
                if (hurtFor[counts] != NEVER && before != NEVER) {
                    least = Math.min(least, before + hurtFor[counts] * SECOND_ROOM + 1);
                }
            }
            return least;
        }

        /** From the last stair to the first: the least DUE and then coins for it and all behind it. */
        void spend(Plan plan, Moment now, int n) {
            Arrays.fill(best[plan.stairs], 0);
            for (int s = plan.stairs - 1; s >= 0; s--) {
                for (int c = 0; c <= REDEEM_COINS; c++) {
                    dueAfter[s][c] = dueWithCoins(now.due[s], plan.dolls - now.thrown[s], c);
                }
                for (int budget = 0; budget <= n; budget++) {
                    best[s][budget] = leastWith(s, budget);
                }
            }
        }

        private int leastWith(int s, int budget) {
            int least = NEVER;
            for (int c = 0; c <= REDEEM_COINS && c <= budget; c++) {
                least = Math.min(least, spentOn(s, c, budget));
            }
            return least;
        }

        private int spentOn(int s, int c, int budget) {
            return dueAfter[s][c] * SECOND_ROOM + c + best[s + 1][budget - c];
        }

        private static int dueWithCoins(int due, int dollsLeft, int c) {
            if (c >= REDEEM_COINS) {
                return 0;
            }
            int most = 0;
            for (int dolls = 0; dolls <= dollsLeft && dolls <= c; dolls++) {
                most = Math.max(most, dolls + (c - dolls) / ACROBAT_COINS * ACROBAT_HALVES);
            }
            return Math.max(0, due - most);
        }

        int leastDue(int n) {
            return best[0][n] / SECOND_ROOM;
        }

        int fewestCoins(int n) {
            return best[0][n] % SECOND_ROOM;
        }

        int coinsFor(int stair, int n) {
            int budget = n;
            for (int s = 0; s < stair; s++) {
                budget -= fewerCoins(s, budget);
            }
            return fewerCoins(stair, budget);
        }

        private int fewerCoins(int s, int budget) {
            for (int c = 0; c <= REDEEM_COINS && c <= budget; c++) {
                if (spentOn(s, c, budget) == best[s][budget]) {
                    return c;
                }
            }
            return 0;
        }

        static int yearsTillFree(int due, int owes, int n) {
            if (due == 0) {
                return 0;
            }
            int left = due;
            for (int year = 1; year <= LAST_YEAR; year++) {
                left = Math.max(0, left - n);
                if (left == 0) {
                    return year;
                }
                left = Math.min(MOST_DUE, left + owes);
            }
            return NONE;
        }
    }

    /**
     * Strikes out bonds round about. Striking never makes a ring, so one pass over all rings, the least first,
     * strikes each as it comes.
     */
    private static final class Rings {
        private final int[] left = new int[MOST_STAIRS * MOST_STAIRS];
        private final int[] row = new int[MOST_STAIRS];
        private int size = 0;
        private int stairs = 0;
        private int struck = 0;

        int strikeAll(int[] bonds, int stairsTold) {
            System.arraycopy(bonds, 0, left, 0, left.length);
            stairs = stairsTold;
            struck = 0;
            for (int fewest = 2; fewest <= stairsTold; fewest++) {
                size = fewest;
                for (int first = 0; first < stairsTold; first++) {
                    row[0] = first;
                    goOn(this, 1, 1 << first);
                }
            }
            return struck;
        }

        private static void goOn(Rings rings, int depth, int used) {
            if (depth >= rings.size) {
                rings.strikeRow();
                return;
            }
            int last = rings.row[depth - 1];
            // A row begins with its least stair, so only greater ones follow.
            for (int t = rings.row[0] + 1; t < rings.stairs; t++) {
                boolean isNew = (used & (1 << t)) == 0;
                if (isNew && rings.left[bondAt(last, t)] > 0) {
                    rings.row[depth] = t;
                    goOn(rings, depth + 1, used | (1 << t));
                }
            }
        }

        private void strikeRow() {
            int least = NEVER;
            for (int i = 0; i < size; i++) {
                least = Math.min(least, left[linkAt(i)]);
            }
            for (int i = 0; i < size; i++) {
                left[linkAt(i)] -= least;
            }
            struck += least * size;
        }

        private int linkAt(int i) {
            return bondAt(row[i], i + 1 < size ? row[i + 1] : row[0]);
        }
    }

    /** Who it was, by what was counted and felt; and who may fall tomorrow. */
    private static final class Suspects {
        private static final int TENTHS = 10;
        private static final int MOST_TOGETHER = MOST_PEOPLE * WHOLE;

        private final int[] chances = new int[MOST_TOGETHER + 1];
        int found = 0;
        int inEach = 0;
        int inSome = 0;

        void search(Plan plan, int times, int halves, int hurt) {
            found = 0;
            inEach = (1 << MOST_PEOPLE) - 1;
            inSome = 0;
            accuse(this, plan, 0, times, halves, hurt, 0);
        }

        /** Tells how often person p and all behind him fell, so that just what is left is made up. */
        private static void accuse(Suspects all, Plan plan, int p, int times, int halves, int hurt, int bits) {
            if (p >= plan.people) {
                if (times == 0 && halves == 0 && hurt == 0) {
                    all.note(bits);
                }
                return;
            }
            for (int often = 0; often <= times; often++) {
                int halvesLeft = halves - often * plan.halvesOf(p);
                int hurtLeft = hurt - often * plan.hurtBy[p];
                int bitsThen = often == 0 ? bits : bits | (1 << p);
                accuse(all, plan, p + 1, times - often, halvesLeft, hurtLeft, bitsThen);
            }
        }

        private void note(int bits) {
            found++;
            inEach &= bits;
            inSome |= bits;
        }

        int oddsOf(Plan plan, int halves, boolean asksUpper) {
            int all = spreadChances(plan);
            int upper = 0;
            for (int j = halves; j <= MOST_TOGETHER; j++) {
                upper += chances[j];
            }
            int shared = commonDivisor(all, upper);
            if (shared <= 0) {
                return NONE;
            }
            return (asksUpper ? upper : all) / shared;
        }

        /** Fills the chances of each count, in parts of what is answered. */
        private int spreadChances(Plan plan) {
            Arrays.fill(chances, 0);
            chances[0] = 1;
            int all = 1;
            for (int p = 0; p < plan.people; p++) {
                int halves = plan.halvesOf(p);
                // Downwards, so that each person falls once at most.
                for (int j = MOST_TOGETHER; j >= 0; j--) {
                    int fell = j >= halves ? chances[j - halves] * (TENTHS - plan.care[p]) : 0;
                    chances[j] = chances[j] * plan.care[p] + fell;
                }
                all *= TENTHS;
            }
            return all;
        }

        private static int commonDivisor(int a, int b) {
            // Numbers this small are through in far fewer rounds; the bound only shows that it ends.
            for (int round = 0; round < 64 && b != 0; round++) {
                int rest = a % b;
                a = b;
                b = rest;
            }
            return a;
        }
    }
}
