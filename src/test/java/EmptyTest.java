/** What is empty: a yard without boats, a row without boats, the text, the history, the snapshot, the stop. */
public final class EmptyTest extends Play {
    private static final Check check = new Check("EmptyTest");

    public static void main(String[] args) {
        aYardWithoutBoats();
        actsInAYardWithoutBoats();
        aYardThatIsEmptyAgain();
        aRowWithoutBoats();
        aRowThatIsEmptyAgain();
        anEmptyText();
        anEmptyHistory();
        aHistoryThatIsEmptyAgain();
        noSnapshot();
        aSnapshotOfAnEmptyYard();
        noStopYet();
        check.end();
    }

    private static void counts(WinterYard x, int... wants) {
        for (int what = 0; what < wants.length; what++) {
            check.due("count(" + what + ")", x.count(what), wants[what]);
        }
    }

    /** "Creates an empty yard, on the day 0." */
    private static void aYardWithoutBoats() {
        WinterYard x = new WinterYard();
        counts(x, 0, 51, 4, 0, 0, 0, 0, 0, 0, 0, 3, 4, 20, 0, 0);
        for (int boat = -1; boat <= 20; boat++) {
            for (int what = -1; what <= 11; what++) {
                check.due("no boat", x.boat(boat, what), UNKNOWN);
            }
            check.due("no boat", x.liftReason(boat, 0), UNKNOWN);
            check.due("no boat", x.launchReason(boat), UNKNOWN);
            check.due("no boat", x.blockers(boat), UNKNOWN);
            check.due("no boat", x.launchDay(boat), UNKNOWN);
            check.due("no boat", x.bestRow(boat), UNKNOWN);
        }
        for (int kind = 0; kind < 3; kind++) {
            check.due("cradles", x.cradle(kind, 0), 4);
            check.due("taken", x.cradle(kind, 1), 0);
            check.due("bears", x.cradle(kind, 2), new int[] {30, 12, 20}[kind]);
        }
    }

    private static void actsInAYardWithoutBoats() {
        refused(check, "goAway", x -> { }, UNKNOWN, x -> x.goAway(0));
        refused(check, "lift", x -> { }, UNKNOWN, x -> x.lift(0, 0));
        refused(check, "launch", x -> { }, UNKNOWN, x -> x.launch(0));
        refused(check, "move", x -> { }, UNKNOWN, x -> x.move(0, 0));
        refused(check, "mast off", x -> { }, UNKNOWN, x -> x.mast(0, false));
        refused(check, "mast up", x -> { }, UNKNOWN, x -> x.mast(0, true));
        refused(check, "work", x -> { }, UNKNOWN, x -> x.work(0, 1));
        act(check, "pass", x -> { }, 48, x -> x.pass(1));
        act(check, "setCradles", x -> { }, 4, x -> x.setCradles(0, 0));
        act(check, "setRow", x -> { }, 40, x -> x.setRow(0, 10));
        act(check, "set", x -> { }, 3, x -> x.set(0, 0));
        act(check, "come", x -> { }, 0, x -> x.come(3, 5, 1, LONG));
    }

    private static void aYardThatIsEmptyAgain() {
        WinterYard x = new WinterYard();
        x.come(5, 5, 5, BILGE);
        x.work(0, 9);
        check.due("the last one goes", x.goAway(0), 0);
        counts(x, 0, 51, 4, 0, 0, 0, 0, 0, 0, 0, 3, 4, 20, 3, 0);
        check.due("it is gone", x.boat(0, 0), UNKNOWN);
        check.due("and again", x.goAway(0), UNKNOWN);
        check.due("a new one", x.come(6, 6, 6, FIN), 0);
        int[] facts = {6, 6, 6, FIN, NONE, NONE, NONE, NONE, 0, 0, 0};
        for (int what = 0; what < facts.length; what++) {
            check.due("has nothing of the old one, fact " + what, x.boat(0, what), facts[what]);
        }
    }

    /** "3 for the boat farthest out (NONE without one)"; "NONE if there are not so many". */
    private static void aRowWithoutBoats() {
        WinterYard x = new WinterYard();
        for (int row = 0; row < 4; row++) {
            check.due("metres", x.row(row, 0), 40);
            check.due("taken", x.row(row, 1), 0);
            check.due("boats", x.row(row, 2), 0);
            check.due("farthest out", x.row(row, 3), NONE);
            check.due("innermost", x.stands(row, 0), NONE);
            check.due("next", x.stands(row, 1), NONE);
            check.due("before the innermost", x.stands(row, -1), BAD_VALUE);
        }
        x.come(5, 5, 5, LONG);
        check.due("a boat afloat stands in none", x.row(0, 2), 0);
        check.due("and nobody is there", x.stands(0, 0), NONE);
        x.lift(0, 0);
        check.due("the innermost", x.stands(0, 0), 0);
        check.due("is the outermost", x.row(0, 3), 0);
        check.due("the other rows are empty", x.row(1, 2) + x.row(2, 2) + x.row(3, 2), 0);
        check.due("setRow of an empty row", x.setRow(1, 10), 40);
    }

    private static void aRowThatIsEmptyAgain() {
        WinterYard x = new WinterYard();
        x.come(5, 5, 5, LONG);
        x.lift(0, 2);
        check.due("moved away", x.move(0, 1), 1);
        check.due("boats", x.row(2, 2), 0);
        check.due("taken", x.row(2, 1), 0);
        check.due("farthest out", x.row(2, 3), NONE);
        check.due("launched", x.launch(0), 0);
        check.due("boats", x.row(1, 2), 0);
        check.due("farthest out", x.row(1, 3), NONE);
        check.due("innermost", x.stands(1, 0), NONE);
        int[] facts = {5, 5, 5, LONG, NONE, NONE, NONE, NONE, 0, 0, 1};
        for (int what = 0; what < facts.length; what++) {
            check.due("a boat that is afloat again, fact " + what, x.boat(0, what), facts[what]);
        }
    }

    /** "Empty at first"; "the length of the text if it ends too early (the empty text does)". */
    private static void anEmptyText() {
        refused(check, "perform() of an empty text", x -> { }, -100, x -> x.perform());
        refused(check, "perform() of an empty text", x -> {
            bringToLife(x);
            x.clearText();
        }, -100, x -> x.perform());
        WinterYard x = new WinterYard();
        check.due("length", x.count(14), 0);
        check.due("it had none", x.clearText(), 0);
        check.due("it still has none", x.clearText(), 0);
        check.due("no act", x.count(13), 0);
        check.due("no stop", x.stopped(0), NONE);
    }

    /** "NONE if the history is empty". */
    private static void anEmptyHistory() {
        refused(check, "undo", x -> { }, NONE, x -> x.undo());
        refused(check, "undo of what is no act", x -> {
            write(x, ".1;.2");
            x.keep();
        }, NONE, x -> x.undo());
        refused(check, "undo of what was refused", x -> {
            x.come(2, 5, 1, LONG);
            x.set(0, 3);
            x.lift(0, 0);
            x.pass(0);
            x.restore();
            x.perform();
        }, NONE, x -> x.undo());
    }

    private static void aHistoryThatIsEmptyAgain() {
        WinterYard x = new WinterYard();
        x.pass(3);
        check.due("undo", x.undo(), 0);
        check.due("no more", x.undo(), NONE);
        check.due("no more", x.undo(), NONE);
        check.due("states", x.count(13), 0);
        check.due("the day", x.count(0), 0);
        x.pass(5);
        check.due("states", x.count(13), 1);
        check.due("undo", x.undo(), 0);
        check.due("the day", x.count(0), 0);
    }

    /** "There is one snapshot, empty at first"; "NONE if there is no snapshot". */
    private static void noSnapshot() {
        refused(check, "restore", x -> { }, NONE, x -> x.restore());
        refused(check, "restore", x -> {
            makeBusy(x);
            x.come(5, 5, 5, LONG);
            x.undo();
        }, NONE, x -> x.restore());
    }

    private static void aSnapshotOfAnEmptyYard() {
        WinterYard x = new WinterYard();
        check.due("keep", x.keep(), 0);
        check.due("no act", x.count(13), 0);
        x.come(5, 5, 5, LONG);
        x.pass(9);
        check.due("restore", x.restore(), 0);
        check.due("it is an act", x.count(13), 3);
        check.due("the day", x.count(0), 0);
        check.due("boats", x.count(3), 0);
        check.due("restore of the same", x.restore(), 0);
        check.due("is an act, too", x.count(13), 4);
    }

    /** "NONE if nothing was stopped yet". */
    private static void noStopYet() {
        WinterYard x = new WinterYard();
        check.due("number", x.stopped(0), NONE);
        check.due("error", x.stopped(1), NONE);
        check.due("another", x.stopped(2), BAD_VALUE);
        performed(x, ".1");
        check.due("a plan that was done is no stop", x.stopped(0), NONE);
        performed(x, "u");
        check.due("a fault is no stop", x.stopped(0), NONE);
        x.lift(0, 0);
        check.due("a lift that is refused is no stop", x.stopped(0), NONE);
        performed(x, "u0:0");
        check.due("now there is one", x.stopped(0), 0);
        check.due("its error", x.stopped(1), UNKNOWN);
    }
}
