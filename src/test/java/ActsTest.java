import java.util.List;
import java.util.function.Consumer;
import java.util.function.ToIntFunction;

/** Acts record the state that was before them, other calls do not; what a state is, and what it is not. */
public final class ActsTest extends Play {
    private static final Check check = new Check("ActsTest");

    public static void main(String[] args) {
        everyAct();
        everyActOnAFullHistory();
        whatIsNoAct();
        whatIsNoState();
        undoTakesBackOneActEach();
        undoIsNoAct();
        anActThatChangesNothing();
        theSnapshotIsTheStateOfThen();
        theSnapshotStays();
        restoreIsUndone();
        historyStaysWithRestore();
        twoYardsAreApart();
        check.end();
    }

    private static void acts(Consumer<WinterYard> before) {
        act(check, "come", before, 5, x -> x.come(5, 5, 5, LONG));
        act(check, "goAway", before, 4, x -> x.goAway(0));
        act(check, "setCradles", before, 4, x -> x.setCradles(FIN, 9));
        act(check, "setRow", before, 40, x -> x.setRow(0, 60));
        act(check, "set 0", before, 3, x -> x.set(0, 9));
        act(check, "set 1", before, 7, x -> x.set(1, 1));
        act(check, "set 2", before, 25, x -> x.set(2, 30));
        act(check, "lift", before, 1, x -> x.lift(3, 0));
        act(check, "launch", before, 0, x -> x.launch(4));
        act(check, "move", before, 3, x -> x.move(4, 2));
        act(check, "mast off", before, 0, x -> x.mast(0, false));
        act(check, "mast up", before, 1, x -> x.mast(3, true));
        act(check, "work afloat", before, 99, x -> x.work(0, 92));
        act(check, "work ashore", before, 5, x -> x.work(1, 5));
        act(check, "pass", before, 51, x -> x.pass(6));
        act(check, "perform", before, 3, x -> x.perform());
        act(check, "restore", before, 5, x -> x.restore());
    }

    private static void everyAct() {
        acts(x -> {
            bringToLife(x);
            x.undo();
            x.undo();
            x.undo();
            x.pass(3);
            x.lift(4, 1);
        });
    }

    private static void everyActOnAFullHistory() {
        acts(Play::bringToLife);
    }

    private static void noAct(String what, int due, ToIntFunction<WinterYard> call) {
        WinterYard x = new WinterYard();
        bringToLife(x);
        x.undo();
        String want = state(x);
        check.due(what, call.applyAsInt(x), due);
        check.due(what + " records nothing", x.count(13), 3);
        check.holds(what + " leaves the state", want.equals(state(x)));
    }

    /** type(), clearText(), stopped(), keep() and all that tells are not described as acts. */
    private static void whatIsNoAct() {
        noAct("type", 11, x -> x.type('x'));
        noAct("clearText", 10, x -> x.clearText());
        noAct("stopped", 2, x -> x.stopped(0));
        noAct("keep", 5, x -> x.keep());
        noAct("boat", 9, x -> x.boat(0, 0));
        noAct("row", 40, x -> x.row(0, 0));
        noAct("stands", 1, x -> x.stands(2, 0));
        noAct("cradle", 4, x -> x.cradle(0, 0));
        noAct("tide", 51, x -> x.tide(14));
        noAct("liftReason", 2, x -> x.liftReason(0, 0));
        noAct("launchReason", 3, x -> x.launchReason(1));
        noAct("blockers", 1, x -> x.blockers(1));
        noAct("launchDay", 8, x -> x.launchDay(1));
        noAct("bestRow", 2, x -> x.bestRow(0));
        noAct("count", 5, x -> x.count(3));
    }

    /** "A state is everything but the text, the history, the snapshot and the latest stop." */
    private static void whatIsNoState() {
        WinterYard x = new WinterYard();
        x.come(5, 5, 5, LONG);
        x.pass(1);
        x.keep();
        performed(x, "d0");
        write(x, "+0");
        check.due("undo", x.undo(), 1);
        check.due("the text stays with undo", x.count(14), 2);
        check.due("its stop, too", x.stopped(1), REFUSED - 1);
        check.due("the snapshot, too", x.restore(), 1);
        check.due("which has the day", x.count(0), 1);
        check.due("the text stays with restore", x.perform(), 1);
        check.due("the stop, too", x.stopped(0), 0);
        x.clearText();
        x.undo();
        check.due("undo brings no text back", x.count(14), 0);
        WinterYard y = new WinterYard();
        write(y, "d3");
        y.keep();
        y.clearText();
        check.due("restore", y.restore(), 0);
        check.due("brings no text back", y.count(14), 0);
    }

    private static void undoTakesBackOneActEach() {
        String[] states = new String[5];
        List<ToIntFunction<WinterYard>> acts =
            List.of(y -> y.work(3, 2), y -> y.move(4, 0), y -> y.setRow(1, 20), y -> y.launch(4));
        // Each telling makes many calls, so each has a yard of its own.
        for (int done = 0; done <= 4; done++) {
            WinterYard y = new WinterYard();
            bringToLife(y);
            for (int i = 0; i < done; i++) {
                acts.get(i).applyAsInt(y);
            }
            states[done] = state(y);
        }
        for (int undos = 0; undos <= 4; undos++) {
            WinterYard y = new WinterYard();
            bringToLife(y);
            for (ToIntFunction<WinterYard> act : acts) {
                check.holds("it is an act", act.applyAsInt(y) >= 0);
            }
            for (int i = 1; i <= undos; i++) {
                check.due("undo", y.undo(), 4 - i);
            }
            check.holds("after " + undos + " undos", states[4 - undos].equals(state(y)));
        }
    }

    private static void undoIsNoAct() {
        WinterYard x = new WinterYard();
        x.pass(1);
        x.pass(2);
        check.due("undo", x.undo(), 1);
        check.due("and once more", x.undo(), 0);
        check.due("not back to what was undone", x.count(0), 0);
        check.due("empty", x.undo(), NONE);
    }

    /** An act that returns no error is recorded, even if all is as it was. */
    private static void anActThatChangesNothing() {
        WinterYard x = new WinterYard();
        x.keep();
        check.due("restore", x.restore(), 0);
        check.due("recorded", x.count(13), 1);
        x.come(5, 5, 5, LONG);
        check.due("perform of what returns NONE", performed(x, "+0"), 1);
        check.due("recorded", x.count(13), 3);
        check.due("undo", x.undo(), 2);
        check.due("the boat is there", x.count(3), 1);
        check.due("undo", x.undo(), 1);
        check.due("the boat is not there", x.count(3), 0);
        check.due("undo", x.undo(), 0);
    }

    /** "Takes a snapshot of the state, in place of the one that was." */
    private static void theSnapshotIsTheStateOfThen() {
        WinterYard was = new WinterYard();
        bringToLife(was);
        String want = state(was);
        WinterYard x = new WinterYard();
        bringToLife(x);
        check.due("keep", x.keep(), 5);
        x.launch(4);
        x.goAway(4);
        x.move(2, 0);
        x.mast(0, false);
        x.set(0, 9);
        x.set(1, 1);
        x.set(2, 1);
        x.setRow(1, 10);
        x.setCradles(FIN, 0);
        x.work(3, 33);
        x.pass(77);
        check.due("restore", x.restore(), 5);
        String got = state(x);
        check.holds("the state of then: " + want + " / " + got, want.equals(got));
    }

    /** "The state of the snapshot, which stays." */
    private static void theSnapshotStays() {
        WinterYard x = new WinterYard();
        x.come(5, 5, 5, LONG);
        check.due("keep", x.keep(), 1);
        for (int i = 1; i <= 3; i++) {
            x.lift(0, 0);
            x.pass(i);
            check.due("restore", x.restore(), 1);
            check.due("afloat", x.boat(0, 4), NONE);
            check.due("the day", x.count(0), 0);
        }
        x.pass(5);
        check.due("keep", x.keep(), 1);
        x.pass(5);
        x.restore();
        check.due("the later one", x.count(0), 5);
        x.undo();
        x.undo();
        check.due("undo", x.count(0), 5);
        x.undo();
        check.due("undo", x.count(0), 0);
        check.due("undo leaves the snapshot", x.restore(), 1);
        check.due("the later one", x.count(0), 5);
    }

    private static void restoreIsUndone() {
        WinterYard x = new WinterYard();
        x.keep();
        x.come(5, 5, 5, LONG);
        x.lift(0, 2);
        x.pass(3);
        check.due("restore", x.restore(), 0);
        check.due("states", x.count(13), 4);
        check.due("undo", x.undo(), 3);
        check.due("ashore for", x.boat(0, 9), 3);
        check.due("its row", x.boat(0, 4), 2);
    }

    private static void historyStaysWithRestore() {
        WinterYard x = new WinterYard();
        x.pass(1);
        x.keep();
        x.pass(2);
        x.restore();
        check.due("states", x.count(13), 3);
        int[] days = {3, 1, 0};
        for (int i = 0; i < 3; i++) {
            check.due("undo", x.undo(), 2 - i);
            check.due("the day", x.count(0), days[i]);
        }
    }

    private static void twoYardsAreApart() {
        WinterYard x = new WinterYard();
        WinterYard y = new WinterYard();
        String want = state(new WinterYard());
        bringToLife(x);
        check.holds("another yard is as it was", want.equals(state(y)));
        check.due("its text", y.count(14), 0);
        check.due("its history", y.undo(), NONE);
        check.due("its snapshot", y.restore(), NONE);
        check.due("its stop", y.stopped(0), NONE);
    }
}
