import java.util.function.Consumer;
import java.util.function.ToIntFunction;

/** Plans that are done, and plans that are stopped at the first thing, in the middle, and at the last. */
public final class PlansTest extends Play {
    private static final Check check = new Check("PlansTest");

    public static void main(String[] args) {
        eachThingIsDone();
        oneAfterTheOther();
        theLongestPlan();
        theTextStays();
        whatReturnsNoneDoesNotStopIt();
        aPlanOfNothingButNone();
        stoppedByEachError();
        stoppedAtEachPlace();
        stoppedByEachReason();
        allOrNothing();
        nothingOfAStoppedPlanIsRecorded();
        oneAct();
        theLatestStop();
        aStopStays();
        theStopIsNoState();
        check.end();
    }

    /** A plan of one thing does what the call does. */
    private static void does(String plan, ToIntFunction<WinterYard> call) {
        act(check, plan, x -> {
            bringToLife(x);
            write(x, plan);
        }, 1, x -> x.perform());
        WinterYard x = new WinterYard();
        bringToLife(x);
        check.holds("the call for " + plan + " is done", call.applyAsInt(x) >= 0);
        WinterYard y = new WinterYard();
        bringToLife(y);
        performed(y, plan);
        check.holds(plan + " does what the call does", state(x).equals(state(y)));
        check.due(plan + ", states", y.count(13), x.count(13));
    }

    private static void eachThingIsDone() {
        does("u3:0", x -> x.lift(3, 0));
        does("u3:3", x -> x.lift(3, 3));
        does("d4", x -> x.launch(4));
        does("m4:2", x -> x.move(4, 2));
        does("m2:0", x -> x.move(2, 0));
        does("-0", x -> x.mast(0, false));
        does("+3", x -> x.mast(3, true));
        does(".1", x -> x.pass(1));
        does(".99", x -> x.pass(99));
    }

    private static void oneAfterTheOther() {
        WinterYard x = new WinterYard();
        bringToLife(x);
        check.due("the plan", performed(x, "m2:0;m1:1;.6;d1;+1;u1:2;-0"), NOT_POSSIBLE);
        check.due("a long boat needs its mast off", x.stopped(1), REFUSED - 6);
        check.due("the plan", performed(x, "m2:0;m1:1;.6;d1;+1;-1;u1:2;-0"), 8);
        WinterYard y = new WinterYard();
        bringToLife(y);
        y.move(2, 0);
        y.move(1, 1);
        y.pass(6);
        check.due("days ashore", y.launch(1), 14);
        y.mast(1, true);
        y.mast(1, false);
        y.lift(1, 2);
        y.mast(0, false);
        check.holds("the same as the calls", state(x).equals(state(y)));
        check.due("lifted by the plan, too", x.boat(1, 10), 2);
    }

    private static void theLongestPlan() {
        WinterYard x = new WinterYard();
        check.due("20 things", performed(x, times(20, ".1", ";")), 20);
        check.due("the day", x.count(0), 20);
        check.due("one act", x.count(13), 1);
        check.due("60 characters", performed(x, times(19, ".9", ";") + ";.99"), 20);
        check.due("the day", x.count(0), 20 + 19 * 9 + 99);
        check.due("undo", x.undo(), 1);
        check.due("the day", x.count(0), 20);
    }

    /** "The plan of the text, which stays." */
    private static void theTextStays() {
        WinterYard x = new WinterYard();
        write(x, ".1;.2");
        for (int i = 1; i <= 3; i++) {
            check.due("perform", x.perform(), 2);
            check.due("the day", x.count(0), 3 * i);
            check.due("length", x.count(14), 5);
        }
        write(x, "d0");
        check.due("stopped", x.perform(), NOT_POSSIBLE);
        check.due("length", x.count(14), 2);
        write(x, "d");
        check.due("a fault", x.perform(), -101);
        check.due("length", x.count(14), 1);
    }

    private static void whatReturnsNoneDoesNotStopIt() {
        WinterYard x = new WinterYard();
        x.come(5, 5, 5, LONG);
        check.due("at first, in the middle, at last", performed(x, "+0;.1;+0;-0;-0;.2;-0"), 7);
        check.due("the day", x.count(0), 3);
        check.due("its mast", x.boat(0, 7), 0);
        check.due("no stop", x.stopped(0), NONE);
        check.due("one act", x.count(13), 2);
    }

    private static void aPlanOfNothingButNone() {
        WinterYard x = new WinterYard();
        x.come(5, 5, 5, LONG);
        String was = state(x);
        check.due("perform", performed(x, "+0"), 1);
        check.holds("nothing has changed", was.equals(state(x)));
        check.due("it is an act", x.count(13), 2);
    }

    /** A yard in which each error can be had: boat 0 ashore and blocked, boat 1 the outer one, boat 2 afloat. */
    private static void forErrors(WinterYard x) {
        makeBusy(x);
        comeMany(x, 3, 9, 5, FIN);
        x.lift(0, 1);
        x.lift(1, 1);
        x.setRow(3, 10);
        x.come(9, 5, 5, LONG);
        x.lift(3, 3);
    }

    private static void stops(Consumer<WinterYard> before, String plan, int number, int error) {
        refused(check, "perform of " + plan, x -> {
            before.accept(x);
            write(x, plan);
        }, NOT_POSSIBLE, x -> x.perform());
        WinterYard x = new WinterYard();
        before.accept(x);
        check.due(plan, performed(x, plan), NOT_POSSIBLE);
        check.due(plan + ", its number", x.stopped(0), number);
        check.due(plan + ", the error", x.stopped(1), error);
    }

    private static void stoppedByEachError() {
        stops(PlansTest::forErrors, "u4:0", 0, UNKNOWN);
        stops(PlansTest::forErrors, "d19", 0, UNKNOWN);
        stops(PlansTest::forErrors, "m9:0", 0, UNKNOWN);
        stops(PlansTest::forErrors, "-5", 0, UNKNOWN);
        stops(PlansTest::forErrors, "+5", 0, UNKNOWN);
        stops(PlansTest::forErrors, "u0:2", 0, REFUSED - 1);
        stops(PlansTest::forErrors, "d2", 0, REFUSED - 1);
        stops(PlansTest::forErrors, "m2:0", 0, NOT_POSSIBLE);
        stops(PlansTest::forErrors, "m0:0", 0, NOT_POSSIBLE);
        stops(PlansTest::forErrors, "m1:1", 0, NOT_POSSIBLE);
        stops(PlansTest::forErrors, "m1:3", 0, FULL);
        stops(PlansTest::forErrors, "-0", 0, NOT_POSSIBLE);
        stops(PlansTest::forErrors, "+0", 0, NOT_POSSIBLE);
        stops(x -> passDays(x, 9999), ".1", 0, FULL);
        stops(x -> {
            comeMany(x, 13, 12, 5, LONG);
            for (int boat = 0; boat < 12; boat++) {
                x.mast(boat, false);
            }
        }, "-12", 0, FULL);
    }

    /** At its first thing, in its middle, and at its last. */
    private static void stoppedAtEachPlace() {
        String[] things = {"-2", ".1", "m1:0", "u2:2", ".2", "d1", "+1"};
        for (int at = 0; at <= things.length; at++) {
            StringBuilder plan = new StringBuilder();
            for (int i = 0; i <= things.length; i++) {
                plan.append(i == 0 ? "" : ";");
                plan.append(i == at ? "d7" : things[i < at ? i : i - 1]);
            }
            stops(PlansTest::forErrors, plan.toString(), at, UNKNOWN);
        }
        WinterYard x = new WinterYard();
        forErrors(x);
        check.due("without it", performed(x, String.join(";", things)), 7);
        String days = times(19, ".1", ";");
        stops(y -> { }, days + ";d0", 19, UNKNOWN);
        stops(y -> { }, "d0;" + days, 0, UNKNOWN);
        stops(y -> { }, times(10, ".1", ";") + ";d0;" + times(9, ".1", ";"), 10, UNKNOWN);
        stops(y -> { }, "d0", 0, UNKNOWN);
        stops(y -> { }, "d0;d1", 0, UNKNOWN);
        stops(y -> y.come(5, 5, 5, LONG), "+0;+0;d0;d1", 2, REFUSED - 1);
    }

    private static void stoppedByEachReason() {
        stops(x -> x.come(5, 40, 5, LONG), ".7;u0:0", 1, REFUSED - 2);
        stops(x -> x.come(5, 5, 21, LONG), ".7;u0:0", 1, REFUSED - 3);
        stops(x -> x.come(5, 5, 13, FIN), "+0;u0:0", 1, REFUSED - 4);
        stops(x -> {
            x.come(10, 5, 5, FIN);
            x.setRow(0, 10);
        }, "-0;u0:0", 1, REFUSED - 5);
        stops(x -> x.come(10, 5, 5, FIN), "-0;+0;u0:0", 2, REFUSED - 6);
        stops(x -> x.come(5, 5, 5, FIN), "u0:0;d0;u0:0;d0;u0:0", 4, REFUSED - 7);
        stops(x -> {
            x.come(5, 5, 5, FIN);
            x.work(0, 3);
        }, "u0:0;.2;d0", 2, REFUSED - 2);
        stops(x -> comeMany(x, 2, 5, 5, FIN), "u0:0;u1:0;d0", 2, REFUSED - 3);
        stops(x -> x.come(5, 40, 5, FIN), "u0:0;.7;d0", 2, REFUSED - 4);
        stops(x -> x.come(5, 5, 5, FIN), "u0:0;m0:1;m0:2;m0:3;d0", 4, REFUSED - 6);
        stops(x -> x.come(5, 5, 5, FIN), "u0:0;m0:1;m0:2;m0:3;m0:0", 4, FULL);
        stops(x -> {
            x.come(5, 5, 5, FIN);
            x.lift(0, 0);
            x.set(2, 4);
        }, "m0:1;d0", 1, REFUSED - 5);
    }

    /** "All of it, or nothing." */
    private static void allOrNothing() {
        WinterYard x = new WinterYard();
        bringToLife(x);
        String was = state(x);
        check.due("a long plan that is stopped at last", performed(x, "-0;+3;m2:0;m1:1;.6;d1;+1;d4;.1;d9"), NOT_POSSIBLE);
        check.due("its number", x.stopped(0), 9);
        check.holds("nothing is done", was.equals(state(x)));
        check.due("states", x.count(13), 4);
    }

    private static void nothingOfAStoppedPlanIsRecorded() {
        WinterYard x = new WinterYard();
        x.pass(1);
        x.pass(2);
        check.due("stopped", performed(x, ".1;.1;.1;.1;.1;d0"), NOT_POSSIBLE);
        check.due("states", x.count(13), 2);
        check.due("undo", x.undo(), 1);
        check.due("the day", x.count(0), 1);
        check.due("stopped", performed(x, ".1;d0"), NOT_POSSIBLE);
        check.due("undo", x.undo(), 0);
        check.due("the day", x.count(0), 0);
        check.due("stopped", performed(x, ".1;d0"), NOT_POSSIBLE);
        check.due("undo", x.undo(), NONE);
    }

    /** "This is one act." */
    private static void oneAct() {
        WinterYard x = new WinterYard();
        comeMany(x, 3, 5, 5, LONG);
        check.due("six things", performed(x, ".1;u0:0;u1:0;.2;d1;d0"), 6);
        check.due("states", x.count(13), 4);
        check.due("undo", x.undo(), 3);
        check.due("the day", x.count(0), 0);
        check.due("lifts", x.count(6), 0);
        check.due("undo", x.undo(), 2);
        check.due("boats", x.count(3), 2);
    }

    private static void theLatestStop() {
        WinterYard x = new WinterYard();
        x.come(12, 5, 5, LONG);
        performed(x, ".1;.1;u0:0");
        check.due("the number", x.stopped(0), 2);
        check.due("the error", x.stopped(1), REFUSED - 6);
        performed(x, ".1;m0:0");
        check.due("the number", x.stopped(0), 1);
        check.due("the error", x.stopped(1), NOT_POSSIBLE);
        performed(x, "u1:0");
        check.due("the number", x.stopped(0), 0);
        check.due("the error", x.stopped(1), UNKNOWN);
    }

    /** What goes well, and what has a fault, tells of no stop. */
    private static void aStopStays() {
        WinterYard x = new WinterYard();
        x.come(12, 5, 5, LONG);
        performed(x, ".1;.1;u0:0");
        performed(x, ".1;.1");
        performed(x, "d0;d");
        x.clearText();
        x.perform();
        x.lift(0, 0);
        x.goAway(3);
        check.due("the number", x.stopped(0), 2);
        check.due("the error", x.stopped(1), REFUSED - 6);
        check.due("neither", x.stopped(2), BAD_VALUE);
    }

    private static void theStopIsNoState() {
        WinterYard x = new WinterYard();
        x.keep();
        x.pass(1);
        performed(x, ".1;d0");
        x.undo();
        check.due("undo leaves it", x.stopped(0), 1);
        x.restore();
        check.due("restore leaves it", x.stopped(0), 1);
        check.due("restore leaves it", x.stopped(1), UNKNOWN);
    }
}
