/**
 * A boatyard that keeps boats ashore in winter.
 * ../shared/DOC.md tells, as numbered promises, what each call does and answers.
 */
public final class WinterYard {
    public static final int UNKNOWN = -1;
    public static final int BAD_VALUE = -2;
    public static final int FULL = -3;
    public static final int NOT_POSSIBLE = -4;
    public static final int NONE = -5;
    public static final int REFUSED = -10;

    private static final int FAULT = -100;

    private final Yard yard = new Yard();
    private final Yard snapshot = new Yard();
    private boolean hasSnapshot = false;
    private final History history = new History();
    private final Plan plan = new Plan();
    private int stopNumber = NONE;
    private int stopError = NONE;

    public WinterYard() {
    }

    // ---- the yard

    public int come(int length, int draft, int weight, int keel) {
        history.prepare(yard);
        return history.settle(yard.addBoat(length, draft, weight, keel));
    }

    public int goAway(int boat) {
        history.prepare(yard);
        return history.settle(yard.removeBoat(boat));
    }

    public int setCradles(int kind, int many) {
        history.prepare(yard);
        return history.settle(yard.changeCradles(kind, many));
    }

    public int setRow(int row, int metres) {
        history.prepare(yard);
        return history.settle(yard.changeRow(row, metres));
    }

    public int set(int which, int value) {
        history.prepare(yard);
        return history.settle(yard.changeSetting(which, value));
    }

    // ---- what is done with boats

    public int lift(int boat, int row) {
        history.prepare(yard);
        return history.settle(yard.liftInto(boat, row));
    }

    public int launch(int boat) {
        history.prepare(yard);
        return history.settle(yard.putAfloat(boat));
    }

    public int move(int boat, int row) {
        history.prepare(yard);
        return history.settle(yard.moveTo(boat, row));
    }

    public int mast(int boat, boolean up) {
        history.prepare(yard);
        return history.settle(up ? yard.putMastUp(boat) : yard.takeMastOff(boat));
    }

    public int work(int boat, int days) {
        history.prepare(yard);
        return history.settle(yard.orderWork(boat, days));
    }

    public int pass(int days) {
        history.prepare(yard);
        return history.settle(yard.letPass(days));
    }

    // ---- texts

    public int type(char character) {
        return plan.append(character);
    }

    public int clearText() {
        return plan.empty();
    }

    public int perform() {
        int fault = plan.read();
        if (fault != NONE) {
            return FAULT - fault;
        }
        history.prepare(yard);
        int things = plan.things();
        for (int number = 0; number < things; number++) {
            int answer = doThing(plan.sign(number), plan.first(number), plan.second(number));
            if (answer < 0 && answer != NONE) {
                stopNumber = number;
                stopError = answer;
                history.takeBack(yard);
                return NOT_POSSIBLE;
            }
        }
        return history.settle(things);
    }

    private int doThing(char sign, int first, int second) {
        switch (sign) {
            case Plan.LIFT:
                return yard.liftInto(first, second);
            case Plan.LAUNCH:
                return yard.putAfloat(first);
            case Plan.MOVE:
                return yard.moveTo(first, second);
            case Plan.MAST_OFF:
                return yard.takeMastOff(first);
            case Plan.MAST_UP:
                return yard.putMastUp(first);
            default:
                return yard.letPass(first);
        }
    }

    public int stopped(int what) {
        if (what == 0) {
            return stopNumber;
        }
        if (what == 1) {
            return stopError;
        }
        return BAD_VALUE;
    }

    // ---- history

    public int undo() {
        return history.stepBack(yard);
    }

    public int keep() {
        snapshot.copyFrom(yard);
        hasSnapshot = true;
        return yard.boats();
    }

    public int restore() {
        if (!hasSnapshot) {
            return NONE;
        }
        history.prepare(yard);
        yard.copyFrom(snapshot);
        return history.settle(yard.boats());
    }

    // ---- what is told

    public int boat(int boat, int what) {
        if (!yard.knows(boat)) {
            return UNKNOWN;
        }
        return Yard.isFact(what) ? yard.fact(boat, what) : BAD_VALUE;
    }

    public int row(int row, int what) {
        if (!Yard.isRow(row)) {
            return UNKNOWN;
        }
        switch (what) {
            case 0:
                return yard.metresOf(row);
            case 1:
                return yard.metresTaken(row);
            case 2:
                return yard.boatsIn(row);
            case 3:
                return yard.boatAt(row, yard.boatsIn(row) - 1);
            default:
                return BAD_VALUE;
        }
    }

    public int stands(int row, int rank) {
        if (!Yard.isRow(row)) {
            return UNKNOWN;
        }
        return rank < 0 ? BAD_VALUE : yard.boatAt(row, rank);
    }

    public int cradle(int kind, int what) {
        if (!Yard.isKind(kind)) {
            return UNKNOWN;
        }
        switch (what) {
            case 0:
                return yard.cradlesOf(kind);
            case 1:
                return yard.cradlesTaken(kind);
            case 2:
                return Yard.bears(kind);
            default:
                return BAD_VALUE;
        }
    }

    public int tide(int day) {
        return within(day, 0, Yard.LAST_DAY) ? yard.tideOn(day) : BAD_VALUE;
    }

    public int liftReason(int boat, int row) {
        return yard.knows(boat) && Yard.isRow(row) ? yard.whyNoLift(boat, row) : UNKNOWN;
    }

    public int launchReason(int boat) {
        return yard.knows(boat) ? yard.whyNoLaunch(boat) : UNKNOWN;
    }

    public int blockers(int boat) {
        if (!yard.knows(boat)) {
            return UNKNOWN;
        }
        return yard.isAshore(boat) ? yard.boatsFartherOut(boat) : NONE;
    }

    public int launchDay(int boat) {
        if (!yard.knows(boat)) {
            return UNKNOWN;
        }
        return yard.isAshore(boat) ? yard.firstLaunchDay(boat) : NONE;
    }

    public int bestRow(int boat) {
        return yard.knows(boat) ? yard.tightestRow(boat) : UNKNOWN;
    }

    public int count(int what) {
        switch (what) {
            case 0:
                return yard.today();
            case 1:
                return yard.tideOn(yard.today());
            case 2:
                return yard.liftsLeft();
            case 3:
                return yard.boats();
            case 4:
                return yard.boatsAshore();
            case 5:
                return yard.boatsWithWork();
            case 6:
                return yard.liftsSoFar();
            case 7:
                return yard.launchesSoFar();
            case 8:
                return yard.mastsIn(Yard.SHORT_RACK);
            case 9:
                return yard.mastsIn(Yard.LONG_RACK);
            case 10:
                return yard.setting(Yard.TIDE_STEP);
            case 11:
                return yard.setting(Yard.LIFTS_A_DAY);
            case 12:
                return yard.setting(Yard.CRANE);
            case 13:
                return history.states();
            case 14:
                return plan.length();
            default:
                return BAD_VALUE;
        }
    }

    private static boolean within(int value, int least, int most) {
        return value >= least && value <= most;
    }

    /**
     * One state: boats, rows, cradles, masts, settings and days. What changes
     * it answers as the public act does, and changes nothing if the answer is
     * negative; what tells of a boat, a row or a kind wants one that is known.
     */
    private static final class Yard {
        static final int LAST_DAY = 9999;
        static final int SHORT_RACK = 0;
        static final int LONG_RACK = 1;
        static final int TIDE_STEP = 0;
        static final int LIFTS_A_DAY = 1;
        static final int CRANE = 2;

        // The facts of a boat have the numbers by which boat() tells them.
        private static final int LENGTH = 0;
        private static final int DRAFT = 1;
        private static final int WEIGHT = 2;
        private static final int KEEL = 3;
        private static final int ROW = 4;
        private static final int PLACE = 5;
        private static final int CRADLE = 6;
        private static final int RACK = 7;
        private static final int WORK = 8;
        private static final int DAYS_ASHORE = 9;
        private static final int TIMES_LIFTED = 10;
        private static final int FACTS = 11;

        private static final int MOST_BOATS = 20;
        private static final int ROWS = 4;
        private static final int KINDS = 3;
        private static final int SETTINGS = 3;
        private static final int LONG_KEEL = 0;
        private static final int BILGE_KEELS = 2;
        private static final int MOST_CRADLES = 9;
        private static final int SHORTEST_ROW = 10;
        private static final int LONGEST_ROW = 60;
        private static final int RACK_ROOM = 6;
        private static final int LONGEST_IN_SHORT_RACK = 12;
        private static final int SHORTEST_MAST_IN_THE_WAY = 10;
        private static final int MOST_DAYS = 99;
        private static final int DAYS_AHEAD = 200;

        private static final int[] BEARS = {30, 12, 20};
        private static final int[] LEAST_SETTING = {0, 1, 1};
        private static final int[] GREATEST_SETTING = {9, 9, 30};

        // A boat that is not there has NONE for every fact.
        private final int[] facts = new int[MOST_BOATS * FACTS];
        private final int[] cradles = {4, 4, 4};
        private final int[] metres = {40, 40, 40, 40};
        private final int[] settings = {3, 4, 20};
        private int day = 0;
        private int liftsToday = 0;
        private int lifts = 0;
        private int launches = 0;

        Yard() {
            for (int boat = 0; boat < MOST_BOATS; boat++) {
                forget(boat);
            }
        }

        void copyFrom(Yard other) {
            System.arraycopy(other.facts, 0, facts, 0, MOST_BOATS * FACTS);
            System.arraycopy(other.cradles, 0, cradles, 0, KINDS);
            System.arraycopy(other.metres, 0, metres, 0, ROWS);
            System.arraycopy(other.settings, 0, settings, 0, SETTINGS);
            day = other.day;
            liftsToday = other.liftsToday;
            lifts = other.lifts;
            launches = other.launches;
        }

        // ---- what is known

        static boolean isFact(int what) {
            return what >= 0 && what < FACTS;
        }

        static boolean isRow(int row) {
            return row >= 0 && row < ROWS;
        }

        static boolean isKind(int kind) {
            return kind >= 0 && kind < KINDS;
        }

        private static boolean isSetting(int which) {
            return which >= 0 && which < SETTINGS;
        }

        boolean knows(int boat) {
            return fact(boat, LENGTH) != NONE;
        }

        // ---- boats

        private static boolean hasPlaceFor(int boat, int what) {
            return boat >= 0 && boat < MOST_BOATS && isFact(what);
        }

        int fact(int boat, int what) {
            return hasPlaceFor(boat, what) ? facts[boat * FACTS + what] : NONE;
        }

        private void note(int boat, int what, int value) {
            if (hasPlaceFor(boat, what)) {
                facts[boat * FACTS + what] = value;
            }
        }

        private void forget(int boat) {
            for (int what = 0; what < FACTS; what++) {
                note(boat, what, NONE);
            }
        }

        private int boatsWith(int what, int value) {
            int many = 0;
            for (int at = 0; at + FACTS <= facts.length; at += FACTS) {
                if (isFact(what) && facts[at + what] == value) {
                    many++;
                }
            }
            return many;
        }

        int addBoat(int length, int draft, int weight, int keel) {
            if (!isKind(keel)) {
                return UNKNOWN;
            }
            if (!within(length, 3, 20) || !within(draft, 5, 40) || !within(weight, 1, 30)) {
                return BAD_VALUE;
            }
            int boat = lowestFreeNumber();
            if (boat == NONE) {
                return FULL;
            }
            note(boat, LENGTH, length);
            note(boat, DRAFT, draft);
            note(boat, WEIGHT, weight);
            note(boat, KEEL, keel);
            note(boat, RACK, NONE);
            note(boat, WORK, 0);
            note(boat, TIMES_LIFTED, 0);
            noteAfloat(boat);
            return boat;
        }

        private int lowestFreeNumber() {
            for (int boat = 0; boat < MOST_BOATS; boat++) {
                if (!knows(boat)) {
                    return boat;
                }
            }
            return NONE;
        }

        private void noteAfloat(int boat) {
            note(boat, ROW, NONE);
            note(boat, PLACE, NONE);
            note(boat, CRADLE, NONE);
            note(boat, DAYS_ASHORE, 0);
        }

        int removeBoat(int boat) {
            if (!knows(boat)) {
                return UNKNOWN;
            }
            if (isAshore(boat) || !hasMast(boat)) {
                return NOT_POSSIBLE;
            }
            forget(boat);
            return boats();
        }

        int boats() {
            return MOST_BOATS - boatsWith(LENGTH, NONE);
        }

        boolean isAshore(int boat) {
            return fact(boat, ROW) != NONE;
        }

        int boatsAshore() {
            return MOST_BOATS - boatsWith(ROW, NONE);
        }

        // ---- cradles

        int cradlesOf(int kind) {
            return isKind(kind) ? cradles[kind] : NONE;
        }

        int cradlesTaken(int kind) {
            return boatsWith(CRADLE, kind);
        }

        static int bears(int kind) {
            return isKind(kind) ? BEARS[kind] : NONE;
        }

        int changeCradles(int kind, int many) {
            if (!isKind(kind)) {
                return UNKNOWN;
            }
            if (!within(many, 0, MOST_CRADLES)) {
                return BAD_VALUE;
            }
            if (cradlesTaken(kind) > many) {
                return NOT_POSSIBLE;
            }
            int previous = cradles[kind];
            if (previous == many) {
                return NONE;
            }
            cradles[kind] = many;
            return previous;
        }

        private boolean hasFreeCradle(int kind) {
            return boatsWith(CRADLE, kind) < cradlesOf(kind);
        }

        /** The kind of the cradle into which a boat is put, or NONE. */
        private int cradleFor(int boat) {
            int keel = fact(boat, KEEL);
            int weight = fact(boat, WEIGHT);
            if (hasFreeCradle(keel) && weight <= bears(keel)) {
                return keel;
            }
            int other = otherKindFor(keel);
            if (other != NONE && hasFreeCradle(other) && 2 * weight <= bears(other)) {
                return other;
            }
            return NONE;
        }

        private static int otherKindFor(int keel) {
            if (keel == LONG_KEEL) {
                return BILGE_KEELS;
            }
            return keel == BILGE_KEELS ? LONG_KEEL : NONE;
        }

        // ---- rows

        int metresOf(int row) {
            return isRow(row) ? metres[row] : NONE;
        }

        private boolean standsIn(int boat, int row) {
            return fact(boat, ROW) == row;
        }

        int metresTaken(int row) {
            int taken = 0;
            for (int at = 0; at + FACTS <= facts.length; at += FACTS) {
                if (facts[at + ROW] == row) {
                    taken += facts[at + LENGTH] + 1;
                }
            }
            return taken;
        }

        private int metresLeft(int row) {
            return metresOf(row) - metresTaken(row);
        }

        private boolean hasRoom(int row, int boat) {
            return fact(boat, LENGTH) + 1 <= metresLeft(row);
        }

        int boatsIn(int row) {
            return boatsWith(ROW, row);
        }

        /** The boat at a place of a row, or NONE; the innermost place is 0. */
        int boatAt(int row, int place) {
            for (int boat = 0; boat < MOST_BOATS; boat++) {
                if (standsIn(boat, row) && fact(boat, PLACE) == place) {
                    return boat;
                }
            }
            return NONE;
        }

        int boatsFartherOut(int boat) {
            return boatsIn(fact(boat, ROW)) - 1 - fact(boat, PLACE);
        }

        int changeRow(int row, int length) {
            if (!isRow(row)) {
                return UNKNOWN;
            }
            if (!within(length, SHORTEST_ROW, LONGEST_ROW)) {
                return BAD_VALUE;
            }
            if (metresTaken(row) > length) {
                return NOT_POSSIBLE;
            }
            int previous = metres[row];
            if (previous == length) {
                return NONE;
            }
            metres[row] = length;
            return previous;
        }

        /** The row with the fewest metres left that has room, not its own; or NONE. */
        int tightestRow(int boat) {
            int best = NONE;
            for (int row = 0; row < ROWS; row++) {
                boolean fits = !standsIn(boat, row) && hasRoom(row, boat);
                if (fits && (best == NONE || metresLeft(row) < metresLeft(best))) {
                    best = row;
                }
            }
            return best;
        }

        private void putAtOuterEnd(int boat, int row) {
            note(boat, PLACE, boatsIn(row));
            note(boat, ROW, row);
        }

        // ---- the crane

        int setting(int which) {
            return isSetting(which) ? settings[which] : NONE;
        }

        int changeSetting(int which, int value) {
            if (!isSetting(which)) {
                return UNKNOWN;
            }
            if (!within(value, LEAST_SETTING[which], GREATEST_SETTING[which])) {
                return BAD_VALUE;
            }
            int previous = settings[which];
            if (previous == value) {
                return NONE;
            }
            settings[which] = value;
            return previous;
        }

        int liftsLeft() {
            return Math.max(0, settings[LIFTS_A_DAY] - liftsToday);
        }

        int liftsSoFar() {
            return lifts;
        }

        int launchesSoFar() {
            return launches;
        }

        private void takeLift() {
            liftsToday++;
            lifts++;
        }

        private boolean craneBears(int boat) {
            return fact(boat, WEIGHT) <= settings[CRANE];
        }

        private boolean isDeepEnough(int boat, int onDay) {
            return fact(boat, DRAFT) <= tideOn(onDay);
        }

        int whyNoLift(int boat, int row) {
            if (isAshore(boat)) {
                return 1;
            }
            if (!isDeepEnough(boat, day)) {
                return 2;
            }
            if (!craneBears(boat)) {
                return 3;
            }
            if (cradleFor(boat) == NONE) {
                return 4;
            }
            if (!hasRoom(row, boat)) {
                return 5;
            }
            if (hasMast(boat) && fact(boat, LENGTH) >= SHORTEST_MAST_IN_THE_WAY) {
                return 6;
            }
            return liftsLeft() > 0 ? 0 : 7;
        }

        int liftInto(int boat, int row) {
            if (!knows(boat) || !isRow(row)) {
                return UNKNOWN;
            }
            int reason = whyNoLift(boat, row);
            if (reason != 0) {
                return REFUSED - reason;
            }
            note(boat, CRADLE, cradleFor(boat));
            putAtOuterEnd(boat, row);
            note(boat, TIMES_LIFTED, fact(boat, TIMES_LIFTED) + 1);
            takeLift();
            return boatsIn(row);
        }

        int whyNoLaunch(int boat) {
            if (!isAshore(boat)) {
                return 1;
            }
            if (fact(boat, WORK) > 0) {
                return 2;
            }
            if (boatsFartherOut(boat) > 0) {
                return 3;
            }
            if (!isDeepEnough(boat, day)) {
                return 4;
            }
            if (!craneBears(boat)) {
                return 5;
            }
            return liftsLeft() > 0 ? 0 : 6;
        }

        int putAfloat(int boat) {
            if (!knows(boat)) {
                return UNKNOWN;
            }
            int reason = whyNoLaunch(boat);
            if (reason != 0) {
                return REFUSED - reason;
            }
            int daysAshore = fact(boat, DAYS_ASHORE);
            noteAfloat(boat);
            takeLift();
            launches++;
            return daysAshore;
        }

        /** The first day on which a boat ashore could be launched, or NONE. */
        int firstLaunchDay(int boat) {
            if (!craneBears(boat)) {
                return NONE;
            }
            for (int ahead = fact(boat, WORK); ahead <= DAYS_AHEAD; ahead++) {
                // Every later day begins with a lift at least.
                boolean liftIsLeft = ahead > 0 || liftsLeft() > 0;
                if (liftIsLeft && isDeepEnough(boat, day + ahead)) {
                    return day + ahead;
                }
            }
            return NONE;
        }

        int moveTo(int boat, int row) {
            if (!knows(boat) || !isRow(row)) {
                return UNKNOWN;
            }
            if (!isAshore(boat) || boatsFartherOut(boat) > 0 || standsIn(boat, row)) {
                return NOT_POSSIBLE;
            }
            if (!hasRoom(row, boat) || liftsLeft() == 0) {
                return FULL;
            }
            putAtOuterEnd(boat, row);
            takeLift();
            return boatsIn(row);
        }

        // ---- masts

        private boolean hasMast(int boat) {
            return fact(boat, RACK) == NONE;
        }

        int mastsIn(int rack) {
            return boatsWith(RACK, rack);
        }

        private int rackFor(int boat) {
            boolean isShort = fact(boat, LENGTH) <= LONGEST_IN_SHORT_RACK;
            if (isShort && mastsIn(SHORT_RACK) < RACK_ROOM) {
                return SHORT_RACK;
            }
            return mastsIn(LONG_RACK) < RACK_ROOM ? LONG_RACK : NONE;
        }

        int takeMastOff(int boat) {
            if (!knows(boat)) {
                return UNKNOWN;
            }
            if (isAshore(boat)) {
                return NOT_POSSIBLE;
            }
            if (!hasMast(boat)) {
                return NONE;
            }
            int rack = rackFor(boat);
            if (rack == NONE) {
                return FULL;
            }
            note(boat, RACK, rack);
            return rack;
        }

        int putMastUp(int boat) {
            if (!knows(boat)) {
                return UNKNOWN;
            }
            if (isAshore(boat)) {
                return NOT_POSSIBLE;
            }
            // The rack of a mast that is up is NONE, which is then the answer too.
            int rack = fact(boat, RACK);
            note(boat, RACK, NONE);
            return rack;
        }

        // ---- work and days

        int orderWork(int boat, int days) {
            if (!knows(boat)) {
                return UNKNOWN;
            }
            if (!within(days, 1, MOST_DAYS)) {
                return BAD_VALUE;
            }
            int left = fact(boat, WORK) + days;
            if (left > MOST_DAYS) {
                return FULL;
            }
            note(boat, WORK, left);
            return left;
        }

        int boatsWithWork() {
            int many = 0;
            for (int boat = 0; boat < MOST_BOATS; boat++) {
                if (fact(boat, WORK) > 0) {
                    many++;
                }
            }
            return many;
        }

        int today() {
            return day;
        }

        int tideOn(int onDay) {
            return 30 + settings[TIDE_STEP] * Math.abs(onDay % 14 - 7);
        }

        int letPass(int days) {
            if (!within(days, 1, MOST_DAYS)) {
                return BAD_VALUE;
            }
            if (day + days > LAST_DAY) {
                return FULL;
            }
            day += days;
            liftsToday = 0;
            for (int boat = 0; boat < MOST_BOATS; boat++) {
                if (isAshore(boat)) {
                    note(boat, DAYS_ASHORE, fact(boat, DAYS_ASHORE) + days);
                    note(boat, WORK, Math.max(0, fact(boat, WORK) - days));
                }
            }
            return tideOn(day);
        }
    }

    /**
     * The latest states. Each act prepares the state that is before it, and
     * settles with its answer whether that state is recorded.
     */
    private static final class History {
        private static final int MOST_STATES = 4;
        // One more than is kept, for the state that is prepared.
        private static final int SLOTS = MOST_STATES + 1;

        private final Yard[] slots = new Yard[SLOTS];
        private int oldest = 0;
        private int recorded = 0;

        History() {
            for (int slot = 0; slot < SLOTS; slot++) {
                slots[slot] = new Yard();
            }
        }

        int states() {
            return recorded;
        }

        private Yard behindLatest() {
            return slots[(oldest + recorded) % SLOTS];
        }

        void prepare(Yard before) {
            behindLatest().copyFrom(before);
        }

        int settle(int answer) {
            if (answer >= 0) {
                if (recorded < MOST_STATES) {
                    recorded++;
                } else {
                    oldest = (oldest + 1) % SLOTS;
                }
            }
            return answer;
        }

        void takeBack(Yard now) {
            now.copyFrom(behindLatest());
        }

        int stepBack(Yard now) {
            if (recorded == 0) {
                return NONE;
            }
            recorded--;
            takeBack(now);
            return recorded;
        }
    }

    /** The text, and the things of the plan that was read from it. */
    private static final class Plan {
        static final char LIFT = 'u';
        static final char LAUNCH = 'd';
        static final char MOVE = 'm';
        static final char MAST_OFF = '-';
        static final char MAST_UP = '+';
        static final char DAYS = '.';

        private static final int MOST_CHARACTERS = 60;
        // A thing has two characters at least, and a ";" stands between two.
        private static final int MOST_THINGS = (MOST_CHARACTERS + 1) / 3;
        private static final int LAST_BOAT = 19;
        private static final int LAST_ROW = 3;
        private static final int MOST_DAYS = 99;

        private final char[] text = new char[MOST_CHARACTERS];
        private int length = 0;
        private int at = 0;
        private final char[] signs = new char[MOST_THINGS];
        private final int[] firsts = new int[MOST_THINGS];
        private final int[] seconds = new int[MOST_THINGS];
        private int things = 0;

        int length() {
            return length;
        }

        int append(char character) {
            if (length >= MOST_CHARACTERS) {
                return FULL;
            }
            text[length] = character;
            length++;
            return length;
        }

        int empty() {
            int before = length;
            length = 0;
            return before;
        }

        int things() {
            return things;
        }

        private boolean has(int number) {
            return number >= 0 && number < things;
        }

        char sign(int number) {
            return has(number) ? signs[number] : ' ';
        }

        int first(int number) {
            return has(number) ? firsts[number] : NONE;
        }

        int second(int number) {
            return has(number) ? seconds[number] : NONE;
        }

        /** Reads the text, and answers the index of its fault, or NONE. */
        int read() {
            at = 0;
            things = 0;
            for (int thing = 0; thing < MOST_THINGS && readThing(); thing++) {
                if (at == length) {
                    return NONE;
                }
                if (!readCharacter(';')) {
                    return at;
                }
            }
            return at;
        }

        /** Reads a thing; if it cannot, the fault is where it has stopped. */
        private boolean readThing() {
            if (at >= length) {
                return false;
            }
            char sign = text[at];
            int first;
            int second = NONE;
            switch (sign) {
                case LIFT:
                case MOVE:
                    at++;
                    first = readNumber(0, LAST_BOAT);
                    if (first == NONE || !readCharacter(':')) {
                        return false;
                    }
                    second = readNumber(0, LAST_ROW);
                    if (second == NONE) {
                        return false;
                    }
                    break;
                case LAUNCH:
                case MAST_OFF:
                case MAST_UP:
                    at++;
                    first = readNumber(0, LAST_BOAT);
                    break;
                case DAYS:
                    at++;
                    first = readNumber(1, MOST_DAYS);
                    break;
                default:
                    return false;
            }
            return first != NONE && add(sign, first, second);
        }

        private boolean add(char sign, int first, int second) {
            if (things >= MOST_THINGS) {
                return false;
            }
            signs[things] = sign;
            firsts[things] = first;
            seconds[things] = second;
            things++;
            return true;
        }

        private boolean readCharacter(char wanted) {
            if (at >= length || text[at] != wanted) {
                return false;
            }
            at++;
            return true;
        }

        /** Reads a number of at most two digits, or answers NONE. */
        private int readNumber(int least, int most) {
            int value = digit();
            if (value < least || value > most) {
                return NONE;
            }
            at++;
            int next = digit();
            if (value > 0 && next != NONE && value * 10 + next <= most) {
                at++;
                value = value * 10 + next;
            }
            return value;
        }

        private int digit() {
            if (at >= length || text[at] < '0' || text[at] > '9') {
                return NONE;
            }
            return text[at] - '0';
        }
    }
}
