import java.util.function.Consumer;
import java.util.function.ToIntFunction;

/**
 * Every error and NONE of each @return line, in the order of the checks where
 * several can apply; after each of them nothing has changed.
 */
public final class RefusalsTest extends Play {
    private static final Check check = new Check("RefusalsTest");

    public static void main(String[] args) {
        come();
        goAway();
        setCradles();
        setRow();
        set();
        liftOfWhatIsUnknown();
        liftReasonsOfABoatAfloat();
        liftReasonsOfABoatAshore();
        launchOfWhatIsUnknown();
        launchReasonsOfABoatAshore();
        launchReasonsOfABoatAfloat();
        moveOfWhatIsUnknown();
        moveReasons();
        moveOfWhatIsAfloat();
        moveIntoItsOwnRow();
        mastAshore();
        mastThatIsSoAlready();
        mastWithoutRoom();
        work();
        pass();
        typeAndClearText();
        stopped();
        undoAndRestore();
        tellings();
        check.end();
    }

    private static void refused(String what, Consumer<WinterYard> before, int due, ToIntFunction<WinterYard> call) {
        refused(check, what, before, due, call);
    }

    private static boolean has(int set, int element) {
        return (set >> element & 1) == 1;
    }

    /** The least element of a set of reasons, or 0 if it is empty. */
    private static int least(int set) {
        return set == 0 ? 0 : Integer.numberOfTrailingZeros(set);
    }

    private static void come() {
        Consumer<WinterYard> full = x -> comeMany(x, 20, 5, 5, LONG);
        Consumer<WinterYard> room = Play::bringToLife;
        refused("come: keel", room, UNKNOWN, x -> x.come(5, 5, 5, 3));
        refused("come: keel, value", room, UNKNOWN, x -> x.come(2, 41, 0, -1));
        refused("come: keel, full", full, UNKNOWN, x -> x.come(5, 5, 5, 3));
        refused("come: keel, value, full", full, UNKNOWN, x -> x.come(21, 5, 5, 3));
        refused("come: length", room, BAD_VALUE, x -> x.come(2, 5, 5, 0));
        refused("come: draft", room, BAD_VALUE, x -> x.come(5, 4, 5, 0));
        refused("come: weight", room, BAD_VALUE, x -> x.come(5, 5, 31, 0));
        refused("come: length, full", full, BAD_VALUE, x -> x.come(21, 5, 5, 0));
        refused("come: draft, full", full, BAD_VALUE, x -> x.come(5, 41, 5, 0));
        refused("come: weight, full", full, BAD_VALUE, x -> x.come(5, 5, 0, 0));
        refused("come: full", full, FULL, x -> x.come(5, 5, 5, 0));
    }

    private static void goAway() {
        Consumer<WinterYard> life = Play::bringToLife;
        refused("goAway: unknown", life, UNKNOWN, x -> x.goAway(7));
        refused("goAway: ashore, its mast off", life, NOT_POSSIBLE, x -> x.goAway(1));
        refused("goAway: ashore, its mast up", life, NOT_POSSIBLE, x -> x.goAway(2));
        refused("goAway: afloat, its mast off", life, NOT_POSSIBLE, x -> x.goAway(3));
        act(check, "goAway: afloat, its mast up, with work", life, 4, x -> x.goAway(0));
    }

    private static void setCradles() {
        Consumer<WinterYard> life = Play::bringToLife;
        refused("setCradles: kind", life, UNKNOWN, x -> x.setCradles(3, 4));
        refused("setCradles: kind, many", life, UNKNOWN, x -> x.setCradles(-1, 10));
        refused("setCradles: many", life, BAD_VALUE, x -> x.setCradles(LONG, 10));
        refused("setCradles: many, more are taken", life, BAD_VALUE, x -> x.setCradles(LONG, -1));
        refused("setCradles: more are taken", life, NOT_POSSIBLE, x -> x.setCradles(LONG, 1));
        refused("setCradles: more are taken", life, NOT_POSSIBLE, x -> x.setCradles(LONG, 0));
        refused("setCradles: so already", life, NONE, x -> x.setCradles(LONG, 4));
        Consumer<WinterYard> tight = x -> {
            bringToLife(x);
            x.setCradles(LONG, 2);
        };
        refused("setCradles: so already, all taken", tight, NONE, x -> x.setCradles(LONG, 2));
        act(check, "setCradles: as many as are taken", life, 4, x -> x.setCradles(LONG, 2));
    }

    private static void setRow() {
        Consumer<WinterYard> life = Play::bringToLife;
        refused("setRow: row", life, UNKNOWN, x -> x.setRow(4, 40));
        refused("setRow: row, metres", life, UNKNOWN, x -> x.setRow(-1, 61));
        refused("setRow: metres", life, BAD_VALUE, x -> x.setRow(0, 61));
        refused("setRow: metres, more are taken", life, BAD_VALUE, x -> x.setRow(2, 9));
        refused("setRow: more are taken", life, NOT_POSSIBLE, x -> x.setRow(2, 10));
        refused("setRow: one more is taken", life, NOT_POSSIBLE, x -> x.setRow(2, 19));
        refused("setRow: so already", life, NONE, x -> x.setRow(2, 40));
        act(check, "setRow: as many as are taken", life, 40, x -> x.setRow(2, 20));
        Consumer<WinterYard> tight = x -> {
            bringToLife(x);
            x.setRow(2, 20);
        };
        refused("setRow: so already, all taken", tight, NONE, x -> x.setRow(2, 20));
    }

    private static void set() {
        Consumer<WinterYard> life = Play::bringToLife;
        refused("set: which", life, UNKNOWN, x -> x.set(3, 1));
        refused("set: which, value", life, UNKNOWN, x -> x.set(-1, 31));
        refused("set: value of 0, fine for 2", life, BAD_VALUE, x -> x.set(0, 10));
        refused("set: value of 1, fine for 0", life, BAD_VALUE, x -> x.set(1, 0));
        refused("set: value of 1, fine for 2", life, BAD_VALUE, x -> x.set(1, 10));
        refused("set: value of 2, fine for 0", life, BAD_VALUE, x -> x.set(2, 0));
        refused("set: so already", life, NONE, x -> x.set(0, 3));
        refused("set: so already", life, NONE, x -> x.set(1, 7));
        refused("set: so already", life, NONE, x -> x.set(2, 25));
    }

    private static void liftOfWhatIsUnknown() {
        Consumer<WinterYard> life = Play::bringToLife;
        for (int[] c : new int[][] {{7, 0}, {-1, 0}, {0, 4}, {0, -1}, {1, 4}, {7, 4}, {20, -1}}) {
            refused("lift: unknown", life, UNKNOWN, x -> x.lift(c[0], c[1]));
            refused("liftReason: unknown", life, UNKNOWN, x -> x.liftReason(c[0], c[1]));
        }
    }

    /** A yard in which exactly the reasons of the set hold against a lift of the boat 0 into the row 2. */
    private static void afloatWith(WinterYard x, int reasons) {
        x.come(10, 35, 12, FIN);
        x.come(3, 5, 1, LONG);
        x.mast(0, false);
        x.lift(1, 3);
        forLift(x, reasons);
        if (has(reasons, 4)) {
            x.setCradles(FIN, 0);
        }
        x.setRow(2, has(reasons, 5) ? 10 : 11);
        if (has(reasons, 6)) {
            x.mast(0, true);
        }
    }

    private static void forLift(WinterYard x, int reasons) {
        if (has(reasons, 2)) {
            x.set(0, 0);
        }
        x.set(2, has(reasons, 3) ? 11 : 12);
        x.set(1, x.count(6) + (has(reasons, 7) ? 0 : 1));
    }

    /** "The first that holds", for each set of the reasons 2 to 7. */
    private static void liftReasonsOfABoatAfloat() {
        for (int set = 0; set < 1 << 8; set++) {
            if (has(set, 0) || has(set, 1)) {
                continue;
            }
            int reasons = set;
            int first = least(set);
            WinterYard x = new WinterYard();
            afloatWith(x, set);
            check.due("the first reason of the set " + set, x.liftReason(0, 2), first);
            if (first == 0) {
                act(check, "lift without a reason", y -> afloatWith(y, 0), 1, y -> y.lift(0, 2));
            } else {
                refused("lift with the set " + set, y -> afloatWith(y, reasons), REFUSED - first, y -> y.lift(0, 2));
            }
        }
    }

    /** A boat ashore (its mast is off, as it is long), and any of the other reasons. */
    private static void ashoreWith(WinterYard x, int reasons) {
        x.come(10, 35, 12, FIN);
        x.mast(0, false);
        x.lift(0, 3);
        forLift(x, reasons);
        if (has(reasons, 4)) {
            x.setCradles(FIN, 1);
        }
        x.setRow(2, has(reasons, 5) ? 10 : 11);
    }

    private static void liftReasonsOfABoatAshore() {
        for (int set = 0; set < 1 << 8; set++) {
            if (has(set, 0) || has(set, 1) || has(set, 6)) {
                continue;
            }
            int reasons = set;
            WinterYard x = new WinterYard();
            ashoreWith(x, set);
            check.due("ashore, and the set " + set, x.liftReason(0, 2), 1);
            check.due("into its own row", x.liftReason(0, 3), 1);
            refused("lift ashore, and the set " + set, y -> ashoreWith(y, reasons), REFUSED - 1, y -> y.lift(0, 2));
        }
    }

    private static void launchOfWhatIsUnknown() {
        for (int boat : new int[] {7, -1, 20}) {
            refused("launch: unknown", Play::bringToLife, UNKNOWN, x -> x.launch(boat));
            refused("launchReason: unknown", Play::bringToLife, UNKNOWN, x -> x.launchReason(boat));
        }
    }

    private static void forLaunch(WinterYard x, int reasons) {
        if (has(reasons, 2)) {
            x.work(0, 1);
        }
        if (has(reasons, 4)) {
            x.set(0, 0);
        }
        x.set(2, has(reasons, 5) ? 11 : 12);
        x.set(1, x.count(6) + (has(reasons, 6) ? 0 : 1));
    }

    private static void toLaunch(WinterYard x, int reasons) {
        x.come(9, 35, 12, FIN);
        x.come(3, 5, 1, LONG);
        x.lift(0, 1);
        x.lift(1, has(reasons, 3) ? 1 : 2);
        forLaunch(x, reasons);
    }

    /** "The first that holds", for each set of the reasons 2 to 6. */
    private static void launchReasonsOfABoatAshore() {
        for (int set = 0; set < 1 << 7; set++) {
            if (has(set, 0) || has(set, 1)) {
                continue;
            }
            int reasons = set;
            int first = least(set);
            WinterYard x = new WinterYard();
            toLaunch(x, set);
            check.due("the first reason of the set " + set, x.launchReason(0), first);
            if (first == 0) {
                act(check, "launch without a reason", y -> toLaunch(y, 0), 0, y -> y.launch(0));
            } else {
                refused("launch with the set " + set, y -> toLaunch(y, reasons), REFUSED - first, y -> y.launch(0));
            }
        }
    }

    private static void afloatToLaunch(WinterYard x, int reasons) {
        x.come(9, 35, 12, FIN);
        x.come(3, 5, 1, LONG);
        x.lift(1, 1);
        forLaunch(x, reasons);
    }

    private static void launchReasonsOfABoatAfloat() {
        for (int set = 0; set < 1 << 7; set++) {
            if (has(set, 0) || has(set, 1) || has(set, 3)) {
                continue;
            }
            int reasons = set;
            WinterYard x = new WinterYard();
            afloatToLaunch(x, set);
            check.due("afloat, and the set " + set, x.launchReason(0), 1);
            refused("launch afloat, and the set " + set, y -> afloatToLaunch(y, reasons), REFUSED - 1, y -> y.launch(0));
        }
    }

    private static void moveOfWhatIsUnknown() {
        for (int[] c : new int[][] {{7, 0}, {-1, 0}, {2, 4}, {2, -1}, {0, 4}, {7, 4}, {1, 4}}) {
            refused("move: unknown", Play::bringToLife, UNKNOWN, x -> x.move(c[0], c[1]));
        }
    }

    /** The boat 0 in the row 1; of the set, 0: another stands farther out, 1: no room in the row 2, 2: no lift. */
    private static void toMove(WinterYard x, int set) {
        x.come(9, 5, 5, LONG);
        x.come(3, 5, 5, LONG);
        x.lift(0, 1);
        x.lift(1, has(set, 0) ? 1 : 3);
        if (has(set, 1)) {
            x.setRow(2, 13);
            x.move(1, 2);
            x.come(3, 5, 5, FIN);
            x.lift(2, has(set, 0) ? 1 : 3);
        }
        x.set(1, x.count(6) + (has(set, 2) ? 0 : 1));
    }

    private static void moveReasons() {
        for (int set = 0; set < 8; set++) {
            int reasons = set;
            int due = set == 0 ? 1 : has(set, 0) ? NOT_POSSIBLE : FULL;
            if (set == 0) {
                act(check, "move", x -> toMove(x, 0), 1, x -> x.move(0, 2));
            } else {
                refused("move with the set " + set, x -> toMove(x, reasons), due, x -> x.move(0, 2));
            }
        }
    }

    private static void moveOfWhatIsAfloat() {
        Consumer<WinterYard> noLift = x -> {
            bringToLife(x);
            x.set(1, 1);
        };
        Consumer<WinterYard> noRoom = x -> {
            bringToLife(x);
            x.setRow(2, 20);
        };
        refused("move: afloat", Play::bringToLife, NOT_POSSIBLE, x -> x.move(0, 0));
        refused("move: afloat, no lift", noLift, NOT_POSSIBLE, x -> x.move(0, 0));
        refused("move: afloat, no room", noRoom, NOT_POSSIBLE, x -> x.move(0, 2));
    }

    private static void moveIntoItsOwnRow() {
        Consumer<WinterYard> tight = x -> {
            bringToLife(x);
            x.setRow(2, 20);
            x.set(1, 1);
        };
        refused("move: into its own row", Play::bringToLife, NOT_POSSIBLE, x -> x.move(2, 2));
        refused("move: into its own row, no room, no lift", tight, NOT_POSSIBLE, x -> x.move(2, 2));
        refused("move: an inner one into its own row", tight, NOT_POSSIBLE, x -> x.move(1, 2));
        refused("move: no lift", tight, FULL, x -> x.move(2, 0));
    }

    private static void mastAshore() {
        Consumer<WinterYard> life = Play::bringToLife;
        for (boolean up : new boolean[] {true, false}) {
            refused("mast: unknown", life, UNKNOWN, x -> x.mast(7, up));
            refused("mast: ashore, its mast is off", life, NOT_POSSIBLE, x -> x.mast(1, up));
            refused("mast: ashore, its mast is up", life, NOT_POSSIBLE, x -> x.mast(2, up));
            refused("mast: ashore, the racks are full", x -> {
                fullRacks(x);
                x.lift(12, 0);
            }, NOT_POSSIBLE, x -> x.mast(12, up));
        }
    }

    private static void fullRacks(WinterYard x) {
        comeMany(x, 12, 12, 5, LONG);
        x.come(9, 5, 5, LONG);
        x.come(13, 5, 5, LONG);
        for (int boat = 0; boat < 12; boat++) {
            x.mast(boat, false);
        }
    }

    private static void mastThatIsSoAlready() {
        refused("mast: up already", Play::bringToLife, NONE, x -> x.mast(0, true));
        refused("mast: off already", Play::bringToLife, NONE, x -> x.mast(3, false));
        refused("mast: off already, in a full rack 0", RefusalsTest::fullRacks, NONE, x -> x.mast(0, false));
        refused("mast: off already, in a full rack 1", RefusalsTest::fullRacks, NONE, x -> x.mast(11, false));
        refused("mast: up already, the racks are full", RefusalsTest::fullRacks, NONE, x -> x.mast(12, true));
    }

    private static void mastWithoutRoom() {
        refused("mast: no rack has room for a short one", RefusalsTest::fullRacks, FULL, x -> x.mast(12, false));
        refused("mast: no rack has room for a long one", RefusalsTest::fullRacks, FULL, x -> x.mast(13, false));
        Consumer<WinterYard> roomIn0 = x -> {
            fullRacks(x);
            x.mast(0, true);
        };
        refused("mast: a long one may not lie in the rack 0", roomIn0, FULL, x -> x.mast(13, false));
        act(check, "mast: a short one may", roomIn0, 0, x -> x.mast(12, false));
    }

    private static void work() {
        Consumer<WinterYard> much = x -> {
            bringToLife(x);
            x.work(0, 92);
        };
        refused("work: unknown", much, UNKNOWN, x -> x.work(7, 1));
        refused("work: unknown, days", much, UNKNOWN, x -> x.work(7, 0));
        refused("work: days", much, BAD_VALUE, x -> x.work(0, 0));
        refused("work: days, more than 99", much, BAD_VALUE, x -> x.work(0, 100));
        refused("work: days", much, BAD_VALUE, x -> x.work(1, 100));
        refused("work: more than 99", much, FULL, x -> x.work(0, 1));
        refused("work: more than 99", Play::bringToLife, FULL, x -> x.work(0, 93));
        act(check, "work: just 99", Play::bringToLife, 99, x -> x.work(0, 92));
    }

    private static void pass() {
        Consumer<WinterYard> last = x -> {
            x.come(5, 5, 5, LONG);
            passDays(x, 9999);
        };
        refused("pass: days", Play::bringToLife, BAD_VALUE, x -> x.pass(0));
        refused("pass: days, beyond", last, BAD_VALUE, x -> x.pass(100));
        refused("pass: days, not beyond", last, BAD_VALUE, x -> x.pass(0));
        refused("pass: beyond", last, FULL, x -> x.pass(1));
        refused("pass: beyond", last, FULL, x -> x.pass(99));
    }

    private static void typeAndClearText() {
        refused("type: 60 characters", x -> {
            bringToLife(x);
            write(x, times(60, "x", ""));
        }, FULL, x -> x.type('1'));
    }

    private static void stopped() {
        refused("stopped: what", Play::bringToLife, BAD_VALUE, x -> x.stopped(2));
        refused("stopped: what, nothing yet", x -> { }, BAD_VALUE, x -> x.stopped(2));
        refused("stopped: nothing yet", x -> { }, NONE, x -> x.stopped(0));
        refused("stopped: nothing yet", x -> { }, NONE, x -> x.stopped(1));
    }

    private static void undoAndRestore() {
        refused("undo: the history is empty", x -> {
            bringToLife(x);
            for (int i = 0; i < 4; i++) {
                x.undo();
            }
        }, NONE, x -> x.undo());
        refused("restore: no snapshot", x -> {
            makeBusy(x);
            comeMany(x, 3, 5, 5, LONG);
        }, NONE, x -> x.restore());
    }

    private static void tellings() {
        Consumer<WinterYard> life = Play::bringToLife;
        refused("boat: unknown, what", life, UNKNOWN, x -> x.boat(7, 11));
        refused("boat: what", life, BAD_VALUE, x -> x.boat(0, 11));
        for (int what = 4; what <= 7; what++) {
            int w = what;
            refused("boat afloat, with its mast: " + what, life, NONE, x -> x.boat(0, w));
        }
        refused("row: unknown, what", life, UNKNOWN, x -> x.row(4, 4));
        refused("row: what", life, BAD_VALUE, x -> x.row(0, 4));
        refused("row: nobody is farthest out", life, NONE, x -> x.row(0, 3));
        refused("stands: unknown, rank", life, UNKNOWN, x -> x.stands(4, -1));
        refused("stands: rank", life, BAD_VALUE, x -> x.stands(0, -1));
        refused("stands: not so many", life, NONE, x -> x.stands(2, 2));
        refused("cradle: unknown, what", life, UNKNOWN, x -> x.cradle(3, 3));
        refused("cradle: what", life, BAD_VALUE, x -> x.cradle(0, 3));
        refused("tide: day", life, BAD_VALUE, x -> x.tide(10000));
        refused("blockers: unknown", life, UNKNOWN, x -> x.blockers(7));
        refused("blockers: afloat", life, NONE, x -> x.blockers(0));
        refused("launchDay: unknown", life, UNKNOWN, x -> x.launchDay(7));
        refused("launchDay: afloat", life, NONE, x -> x.launchDay(0));
        refused("launchDay: none", x -> {
            bringToLife(x);
            x.set(2, 1);
        }, NONE, x -> x.launchDay(2));
        refused("bestRow: unknown", life, UNKNOWN, x -> x.bestRow(7));
        refused("bestRow: none", x -> {
            bringToLife(x);
            for (int row = 0; row < 4; row++) {
                x.setRow(row, row == 2 ? 20 : 10);
            }
        }, NONE, x -> x.bestRow(3));
        refused("count: what", life, BAD_VALUE, x -> x.count(15));
    }
}
