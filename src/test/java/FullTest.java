/** What is full or used up: the last that there is room for, and the next one. */
public final class FullTest extends Play {
    private static final Check check = new Check("FullTest");

    public static void main(String[] args) {
        twentyBoats();
        theFirstAndTheLastBoat();
        cradlesOfItsKind();
        cradlesOfTheOtherKind();
        cradlesOfFins();
        nineCradles();
        noCradles();
        metresOfARow();
        metresOfTheLeastAndTheGreatestRow();
        sixMastsInEachRack();
        ninetyNineDaysOfWork();
        liftsOfADay();
        everyKindOfLiftTakesOne();
        theLastDay();
        theLastDayInAPlan();
        sixtyCharacters();
        fourStates();
        check.end();
    }

    /** "There are at most 20 boats"; "FULL if there are 20". */
    private static void twentyBoats() {
        WinterYard x = new WinterYard();
        for (int boat = 0; boat < 20; boat++) {
            check.due("a boat comes", x.come(3 + boat % 18, 5, 1, boat % 3), boat);
            check.due("boats", x.count(3), boat + 1);
        }
        refused(check, "the 21st boat", y -> comeMany(y, 20, 5, 5, LONG), FULL, y -> y.come(3, 5, 1, LONG));
        act(check, "the 20th boat", y -> comeMany(y, 19, 5, 5, LONG), 19, y -> y.come(3, 5, 1, LONG));
        check.due("one goes", x.goAway(19), 19);
        check.due("one comes", x.come(3, 5, 1, LONG), 19);
        check.due("no more", x.come(3, 5, 1, LONG), FULL);
        check.due("boats", x.count(3), 20);
    }

    /** The boats 0 and 19 count as all the others do. */
    private static void theFirstAndTheLastBoat() {
        WinterYard x = busyYard();
        comeMany(x, 20, 12, 5, LONG);
        for (int boat : new int[] {0, 19}) {
            check.due("its mast is taken off", x.mast(boat, false), 0);
            x.work(boat, 2);
            check.due("it is lifted", x.lift(boat, 3), boat == 0 ? 1 : 2);
        }
        int[] row = {40, 26, 2, 19};
        for (int what = 0; what < 4; what++) {
            check.due("the row, " + what, x.row(3, what), row[what]);
        }
        check.due("innermost", x.stands(3, 0), 0);
        check.due("outermost", x.stands(3, 1), 19);
        int[] counts = {0, 51, 7, 20, 2, 2, 2, 0, 2, 0};
        for (int what = 0; what < counts.length; what++) {
            check.due("count(" + what + ")", x.count(what), counts[what]);
        }
        x.pass(3);
        check.due("days ashore", x.boat(0, 9), 3);
        check.due("days ashore", x.boat(19, 9), 3);
        check.due("no work is left", x.count(5), 0);
    }

    private static void fourOfAKind(WinterYard x, int kind) {
        makeBusy(x);
        comeMany(x, 6, 5, 4, kind);
        for (int boat = 0; boat < 4; boat++) {
            check.due("into a cradle of its keel's kind", x.lift(boat, boat), 1);
            check.due("the kind", x.boat(boat, 6), kind);
            check.due("taken", x.cradle(kind, 1), boat + 1);
        }
    }

    /** "Into a cradle of its keel's kind, if one is free"; otherwise into the other kind. */
    private static void cradlesOfItsKind() {
        for (int kind : new int[] {LONG, BILGE}) {
            WinterYard x = new WinterYard();
            fourOfAKind(x, kind);
            check.due("all 4 are taken", x.lift(4, 0), 2);
            check.due("so the other kind", x.boat(4, 6), BILGE - kind);
            check.due("taken of its own", x.cradle(kind, 1), 4);
            check.due("taken of the other", x.cradle(BILGE - kind, 1), 1);
            check.due("one is free again", x.launch(3), 0);
            check.due("into it", x.lift(5, 3), 1);
            check.due("its own kind", x.boat(5, 6), kind);
            check.due("the other one stays in its cradle", x.boat(4, 6), BILGE - kind);
        }
    }

    /** The other kind is used up, too. */
    private static void cradlesOfTheOtherKind() {
        for (int kind : new int[] {LONG, BILGE}) {
            int other = BILGE - kind;
            WinterYard x = busyYard();
            x.setCradles(kind, 1);
            x.setCradles(other, 1);
            comeMany(x, 3, 5, 4, kind);
            check.due("its own kind", x.lift(0, 0), 1);
            check.due("the other kind", x.lift(1, 0), 2);
            check.due("none is left", x.liftReason(2, 0), 4);
            check.due("nor for a lift", x.lift(2, 0), REFUSED - 4);
            check.due("the second leaves", x.launch(1), 0);
            check.due("the other kind again", x.lift(2, 0), 2);
            check.due("the other kind again", x.boat(2, 6), other);
        }
    }

    /** A fin fits no other kind, and no other keel fits a cradle for fins. */
    private static void cradlesOfFins() {
        WinterYard x = new WinterYard();
        fourOfAKind(x, FIN);
        check.due("all 4 are taken", x.liftReason(4, 0), 4);
        check.due("the others are free", x.cradle(LONG, 1) + x.cradle(BILGE, 1), 0);
        WinterYard y = busyYard();
        y.setCradles(LONG, 0);
        y.setCradles(BILGE, 0);
        y.come(3, 5, 1, LONG);
        y.come(3, 5, 1, BILGE);
        check.due("a long keel in a cradle for fins", y.liftReason(0, 0), 4);
        check.due("bilge keels in a cradle for fins", y.liftReason(1, 0), 4);
    }

    private static void nineCradles() {
        for (int kind = 0; kind < 3; kind++) {
            WinterYard x = busyYard();
            x.setCradles(kind, 9);
            x.setCradles(kind == LONG ? BILGE : LONG, 0);
            comeMany(x, 10, 3, 1, kind);
            for (int boat = 0; boat < 9; boat++) {
                check.due("one of nine", x.lift(boat, 0), boat + 1);
            }
            check.due("nine are taken", x.cradle(kind, 1), 9);
            x.pass(14);
            check.due("the tenth", x.lift(9, 0), REFUSED - 4);
        }
    }

    private static void noCradles() {
        for (int kind = 0; kind < 3; kind++) {
            WinterYard x = new WinterYard();
            x.come(3, 5, 1, kind);
            x.setCradles(kind, 0);
            check.due("without one of its kind", x.liftReason(0, 0), kind == FIN ? 4 : 0);
            if (kind != FIN) {
                x.setCradles(BILGE - kind, 0);
                check.due("without any", x.liftReason(0, 0), 4);
            }
            x.setCradles(kind, 1);
            check.due("with one", x.lift(0, 0), 1);
            check.due("taken", x.cradle(kind, 1), 1);
        }
    }

    /** "The row has room": a boat takes its length and 1 metre more. */
    private static void metresOfARow() {
        WinterYard x = busyYard();
        comeMany(x, 4, 9, 1, FIN);
        comeMany(x, 1, 3, 1, LONG);
        for (int boat = 0; boat < 4; boat++) {
            check.due("10 of 40 metres each", x.lift(boat, 1), boat + 1);
            check.due("taken", x.row(1, 1), 10 * boat + 10);
        }
        check.due("the row is full", x.lift(4, 1), REFUSED - 5);
        check.due("another one is not", x.lift(4, 0), 1);
        check.due("nor can a boat be moved into it", x.move(4, 1), FULL);
        check.due("nor is it the best", x.bestRow(4), 2);
        check.due("3 metres more", x.setRow(1, 43), 40);
        check.due("do not do", x.move(4, 1), FULL);
        check.due("4 metres more", x.setRow(1, 44), 43);
        check.due("do", x.bestRow(4), 1);
        check.due("do", x.move(4, 1), 5);
        check.due("taken", x.row(1, 1), 44);
        check.due("the outermost leaves", x.launch(4), 0);
        check.due("its metres are free", x.row(1, 1), 40);
    }

    private static void metresOfTheLeastAndTheGreatestRow() {
        WinterYard x = busyYard();
        x.setRow(0, 10);
        comeMany(x, 1, 9, 1, LONG);
        x.come(10, 5, 1, LONG);
        x.mast(1, false);
        check.due("10 and 1 in 10 metres", x.liftReason(1, 0), 5);
        check.due("9 and 1 in 10 metres", x.liftReason(0, 0), 0);
        WinterYard y = busyYard();
        y.setRow(3, 60);
        for (int boat = 0; boat < 3; boat++) {
            y.come(boat == 2 ? 18 : 19, 5, 1, LONG);
            y.mast(boat, false);
        }
        y.come(3, 5, 1, LONG);
        check.due("20 of 60", y.lift(0, 3), 1);
        check.due("40 of 60", y.lift(1, 3), 2);
        check.due("59 of 60", y.lift(2, 3), 3);
        check.due("taken", y.row(3, 1), 59);
        check.due("1 metre is too few", y.lift(3, 3), REFUSED - 5);
    }

    /** "2 racks, with room for 6 masts each". */
    private static void sixMastsInEachRack() {
        WinterYard x = new WinterYard();
        comeMany(x, 13, 12, 3, LONG);
        for (int boat = 0; boat < 12; boat++) {
            check.due("six into each rack", x.mast(boat, false), boat / 6);
            check.due("masts in the rack", x.count(8 + boat / 6), boat % 6 + 1);
        }
        check.due("a seventh in neither", x.mast(12, false), FULL);
        check.due("one that is off already is so, full or not", x.mast(11, false), NONE);
        check.due("one leaves the rack 0", x.mast(2, true), 0);
        check.due("so there is room", x.mast(12, false), 0);
        check.due("but no more", x.mast(2, false), FULL);
        check.due("one leaves the rack 1", x.mast(9, true), 1);
        check.due("so there is room", x.mast(2, false), 1);
        check.due("but no more", x.mast(9, false), FULL);
        WinterYard y = new WinterYard();
        comeMany(y, 7, 13, 3, LONG);
        comeMany(y, 1, 12, 3, LONG);
        for (int boat = 0; boat < 6; boat++) {
            check.due("long ones into the rack 1", y.mast(boat, false), 1);
        }
        check.due("a seventh long one", y.mast(6, false), FULL);
        check.due("none is in the rack 0", y.count(8), 0);
        check.due("a short one may lie there", y.mast(7, false), 0);
    }

    /** "Work on a boat takes days (0 at first, at most 99)". */
    private static void ninetyNineDaysOfWork() {
        int[][] sums = {{98, 1, 99}, {98, 2, FULL}, {99, 1, FULL}, {99, 99, FULL}, {1, 98, 99}, {1, 99, FULL},
            {50, 49, 99}, {50, 50, FULL}, {97, 1, 98}};
        for (int[] s : sums) {
            if (s[2] == FULL) {
                refused(check, s[0] + " and " + s[1], x -> workOn(x, s[0]), FULL, x -> x.work(0, s[1]));
            } else {
                act(check, s[0] + " and " + s[1], x -> workOn(x, s[0]), s[2], x -> x.work(0, s[1]));
            }
        }
        WinterYard x = busyYard();
        workOn(x, 99);
        x.lift(0, 0);
        x.pass(1);
        check.due("a day of 99 is done", x.work(0, 2), FULL);
        check.due("so there is room for one", x.work(0, 1), 99);
    }

    private static void workOn(WinterYard x, int days) {
        x.come(5, 5, 5, LONG);
        x.work(0, days);
    }

    /** "As many lifts in a day as the setting 1 tells". */
    private static void liftsOfADay() {
        for (int lifts = 1; lifts <= 9; lifts++) {
            WinterYard x = new WinterYard();
            x.set(1, lifts);
            x.come(3, 5, 1, LONG);
            for (int done = 0; done < lifts; done++) {
                check.due("left", x.count(2), lifts - done);
                check.due("a lift", done % 2 == 0 ? x.lift(0, 0) : x.launch(0), done % 2 == 0 ? 1 : 0);
            }
            check.due("none is left", x.count(2), 0);
            check.due("so none is done", lifts % 2 == 0 ? x.lift(0, 0) : x.launch(0), REFUSED - (lifts % 2 == 0 ? 7 : 6));
            check.due("none is left", x.count(2), 0);
            check.due("lifts so far", x.count(6), lifts);
        }
    }

    /** "Both take a lift"; "that takes a lift, whatever the tide". */
    private static void everyKindOfLiftTakesOne() {
        WinterYard x = new WinterYard();
        x.come(3, 5, 1, LONG);
        x.come(3, 5, 1, LONG);
        x.lift(0, 0);
        check.due("a lift takes one", x.count(2), 3);
        x.move(0, 1);
        check.due("a move takes one", x.count(2), 2);
        x.launch(0);
        check.due("a launch takes one", x.count(2), 1);
        x.lift(0, 0);
        check.due("none is left", x.count(2), 0);
        check.due("no lift", x.lift(1, 0), REFUSED - 7);
        check.due("no launch", x.launch(0), REFUSED - 6);
        check.due("no move", x.move(0, 1), FULL);
        check.due("lifts of all kinds", x.count(6), 4);
        check.due("launches", x.count(7), 1);
    }

    private static void toTheDay(WinterYard x, int day) {
        x.come(5, 5, 5, LONG);
        x.lift(0, 0);
        passDays(x, day);
    }

    /** "FULL if the day would be beyond 9999". */
    private static void theLastDay() {
        int[][] cases = {{9998, 1, 9999}, {9998, 2, FULL}, {9999, 1, FULL}, {9999, 99, FULL}, {9900, 99, 9999},
            {9901, 99, FULL}, {9901, 98, 9999}, {9997, 1, 9998}};
        for (int[] c : cases) {
            WinterYard x = new WinterYard();
            toTheDay(x, c[0]);
            check.due("the day", x.count(0), c[0]);
            int tide = c[2] == FULL ? FULL : x.tide(c[2]);
            check.due("from " + c[0] + " by " + c[1], x.pass(c[1]), tide);
            int then = c[2] == FULL ? c[0] : c[2];
            check.due("the day then", x.count(0), then);
            check.due("days ashore", x.boat(0, 9), then);
            check.due("states", x.count(13), 4);
            check.due("undo", x.undo(), 3);
        }
        WinterYard x = new WinterYard();
        toTheDay(x, 9999);
        check.due("on the last day a boat is launched", x.launch(0), 9999);
        check.due("and lifted", x.lift(0, 3), 1);
        check.due("and can be launched on it", x.launchDay(0), 9999);
    }

    private static void theLastDayInAPlan() {
        WinterYard x = new WinterYard();
        toTheDay(x, 9900);
        check.due("one day too many", performed(x, ".98;.2"), NOT_POSSIBLE);
        check.due("by the second", x.stopped(0), 1);
        check.due("FULL", x.stopped(1), FULL);
        check.due("the day", x.count(0), 9900);
        check.due("just not", performed(x, ".98;.1"), 2);
        check.due("the day", x.count(0), 9999);
    }

    /** "A text of at most 60 characters"; "FULL if it has 60 characters". */
    private static void sixtyCharacters() {
        WinterYard x = new WinterYard();
        for (int i = 1; i <= 60; i++) {
            check.due("a character", x.type('.'), i);
        }
        check.due("no more", x.type('.'), FULL);
        check.due("nor another", x.type('1'), FULL);
        check.due("length", x.count(14), 60);
        check.due("emptied", x.clearText(), 60);
        check.due("room again", x.type('.'), 1);
        String plan = times(20, ".1", ";");
        refused(check, "the 61st", y -> write(y, plan + "0"), FULL, y -> y.type('0'));
        WinterYard z = new WinterYard();
        write(z, plan + "0;.9");
        check.due("what was typed behind 60 is no part of the plan", z.perform(), 20);
        check.due("the day", z.count(0), 19 + 10);
    }

    /** "A history of at most 4 states is kept". */
    private static void fourStates() {
        WinterYard x = new WinterYard();
        for (int act = 1; act <= 7; act++) {
            x.pass(act);
            check.due("states", x.count(13), Math.min(act, 4));
        }
        int[] days = {1 + 2 + 3 + 4 + 5 + 6, 1 + 2 + 3 + 4 + 5, 1 + 2 + 3 + 4, 1 + 2 + 3};
        for (int i = 0; i < 4; i++) {
            check.due("undo", x.undo(), 3 - i);
            check.due("the day", x.count(0), days[i]);
        }
        check.due("no more", x.undo(), NONE);
        check.due("the day", x.count(0), days[3]);
    }
}
