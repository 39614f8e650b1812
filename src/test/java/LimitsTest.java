/** "At least", "at most", "the half of what it bears": each number itself, and its neighbours on both sides. */
public final class LimitsTest extends Play {
    private static final Check check = new Check("LimitsTest");

    public static void main(String[] args) {
        theTideIsAtLeastTheDraft();
        theCraneBearsTheWeight();
        whatACradleBears();
        theHalfOfWhatItBears();
        everyKeelAndWeight();
        itsOwnKindComesFirst();
        tenMetresOrMore();
        atMostTwelveMetres();
        itsLengthAndOneMetreMore();
        roomToBeMoved();
        noMoreCradlesThanAreTaken();
        noFewerMetresThanAreTaken();
        soAlready();
        theWorkIsDone();
        noBoatFartherOut();
        onlyTheOutermostIsMoved();
        theFirstLaunchDay();
        theLaunchDayWithin200();
        theFewestMetresLeft();
        itsOwnRowDoesNotCount();
        check.end();
    }

    /** A yard on the day 7, when the tide is 30, with boat 0 ashore since the day 0, and boat 1 afloat. */
    private static WinterYard atLowTide(int draft) {
        WinterYard x = busyYard();
        x.come(5, draft, 5, LONG);
        x.come(5, draft, 5, LONG);
        x.lift(0, 0);
        x.pass(7);
        return x;
    }

    private static void theTideIsAtLeastTheDraft() {
        int[] drafts = {28, 29, 30, 31, 32};
        for (int draft : drafts) {
            boolean floats = draft <= 30;
            WinterYard x = atLowTide(draft);
            check.due("the tide", x.count(1), 30);
            check.due("draft " + draft + ", liftReason", x.liftReason(1, 0), floats ? 0 : 2);
            check.due("draft " + draft + ", launchReason", x.launchReason(0), floats ? 0 : 4);
            check.due("draft " + draft + ", launchDay", x.launchDay(0), floats ? 7 : 8);
            check.due("draft " + draft + ", launch", x.launch(0), floats ? 7 : REFUSED - 4);
            check.due("draft " + draft + ", lift", x.lift(1, 1), floats ? 1 : REFUSED - 2);
        }
        WinterYard x = atLowTide(40);
        check.due("a move, whatever the tide", x.move(0, 3), 1);
    }

    private static void theCraneBearsTheWeight() {
        for (int bears = 1; bears <= 30; bears++) {
            for (int weight = Math.max(1, bears - 1); weight <= Math.min(30, bears + 1); weight++) {
                boolean isBorne = weight <= bears;
                WinterYard x = busyYard();
                x.come(5, 5, weight, LONG);
                x.come(5, 5, weight, LONG);
                x.lift(0, 0);
                x.set(2, bears);
                String told = "weight " + weight + ", crane " + bears;
                check.due(told + ", liftReason", x.liftReason(1, 0), isBorne ? 0 : 3);
                check.due(told + ", launchReason", x.launchReason(0), isBorne ? 0 : 5);
                check.due(told + ", launchDay", x.launchDay(0), isBorne ? 0 : NONE);
                check.due(told + ", move", x.move(0, 2), 1);
                check.due(told + ", lift", x.lift(1, 0), isBorne ? 1 : REFUSED - 3);
                check.due(told + ", launch", x.launch(0), isBorne ? 0 : REFUSED - 5);
            }
        }
    }

    private static int cradleOf(int keel, int weight, int missingKind) {
        WinterYard x = busyYard();
        if (missingKind != NONE) {
            x.setCradles(missingKind, 0);
        }
        x.come(5, 5, weight, keel);
        int reason = x.liftReason(0, 0);
        check.due("the lift is as its reason tells", x.lift(0, 0), reason == 0 ? 1 : REFUSED - reason);
        return x.boat(0, 6);
    }

    /** "Bears up to 30 tons; one for fins bears up to 12; one for bilge keels up to 20." */
    private static void whatACradleBears() {
        int[][] cases = {{LONG, 29, LONG}, {LONG, 30, LONG}, {FIN, 11, FIN}, {FIN, 12, FIN}, {FIN, 13, NONE},
            {BILGE, 19, BILGE}, {BILGE, 20, BILGE}, {BILGE, 21, NONE}};
        for (int[] c : cases) {
            check.due("keel " + c[0] + ", weight " + c[1], cradleOf(c[0], c[1], NONE), c[2]);
        }
        WinterYard x = new WinterYard();
        check.due("long", x.cradle(LONG, 2), 30);
        check.due("fin", x.cradle(FIN, 2), 12);
        check.due("bilge", x.cradle(BILGE, 2), 20);
    }

    /** "If one is free and the weight is at most the half of what it bears." */
    private static void theHalfOfWhatItBears() {
        int[][] cases = {{BILGE, 14, LONG}, {BILGE, 15, LONG}, {BILGE, 16, NONE},
            {LONG, 9, BILGE}, {LONG, 10, BILGE}, {LONG, 11, NONE}, {FIN, 5, NONE}, {FIN, 6, NONE}, {FIN, 7, NONE}};
        for (int[] c : cases) {
            check.due("keel " + c[0] + ", weight " + c[1] + ", none of its own", cradleOf(c[0], c[1], c[0]), c[2]);
        }
        // Its own kind is free, but does not bear it; the other one would have to bear twice as much.
        check.due("bilge keels of 21 tons", cradleOf(BILGE, 21, NONE), NONE);
        check.due("bilge keels of 30 tons", cradleOf(BILGE, 30, NONE), NONE);
    }

    private static void everyKeelAndWeight() {
        int[] bears = {30, 12, 20};
        int[] halfOfOther = {10, 0, 15};
        for (int keel = 0; keel < 3; keel++) {
            for (int weight = 1; weight <= 30; weight++) {
                String told = "keel " + keel + ", weight " + weight;
                check.due(told, cradleOf(keel, weight, NONE), weight <= bears[keel] ? keel : NONE);
                int other = weight <= halfOfOther[keel] ? BILGE - keel : NONE;
                check.due(told + ", none of its own", cradleOf(keel, weight, keel), other);
            }
        }
    }

    private static void itsOwnKindComesFirst() {
        for (int keel = 0; keel < 3; keel++) {
            check.due("a light boat, all are free", cradleOf(keel, 1, NONE), keel);
            check.due("the fin's are gone", cradleOf(keel, 1, FIN), keel == FIN ? NONE : keel);
        }
        check.due("the other kind is gone", cradleOf(LONG, 1, BILGE), LONG);
        check.due("the other kind is gone", cradleOf(BILGE, 1, LONG), BILGE);
    }

    /** "Its mast is off, if its length is 10 metres or more." */
    private static void tenMetresOrMore() {
        for (int length = 3; length <= 20; length++) {
            WinterYard x = busyYard();
            x.come(length, 5, 5, LONG);
            check.due("length " + length, x.liftReason(0, 0), length < 10 ? 0 : 6);
            check.due("length " + length, x.lift(0, 0), length < 10 ? 1 : REFUSED - 6);
            x.undo();
            WinterYard y = busyYard();
            y.come(length, 5, 5, LONG);
            y.mast(0, false);
            check.due("length " + length + ", the mast off", y.lift(0, 0), 1);
        }
    }

    /** "Of at most 12 metres in the rack 0, and of any length in the rack 1." */
    private static void atMostTwelveMetres() {
        for (int length = 3; length <= 20; length++) {
            WinterYard x = new WinterYard();
            x.come(length, 5, 5, LONG);
            check.due("length " + length, x.mast(0, false), length <= 12 ? 0 : 1);
            check.due("length " + length, x.boat(0, 7), length <= 12 ? 0 : 1);
            check.due("length " + length, x.count(8), length <= 12 ? 1 : 0);
            check.due("length " + length, x.count(9), length <= 12 ? 0 : 1);
        }
        for (int length : new int[] {3, 11, 12, 13, 20}) {
            WinterYard x = new WinterYard();
            comeMany(x, 6, 12, 5, LONG);
            x.come(length, 5, 5, LONG);
            for (int boat = 0; boat < 6; boat++) {
                x.mast(boat, false);
            }
            check.due("the rack 0 is full, length " + length, x.mast(6, false), 1);
        }
    }

    /** "Takes its length and 1 metre more." */
    private static void itsLengthAndOneMetreMore() {
        for (int length = 9; length <= 20; length++) {
            for (int metres = Math.max(10, length - 1); metres <= length + 2; metres++) {
                WinterYard x = busyYard();
                x.come(length, 5, 5, LONG);
                x.mast(0, false);
                x.setRow(2, metres);
                boolean fits = length + 1 <= metres;
                String told = length + " metres into " + metres;
                check.due(told, x.liftReason(0, 2), fits ? 0 : 5);
                check.due(told, x.lift(0, 2), fits ? 1 : REFUSED - 5);
                check.due(told + ", taken", x.row(2, 1), fits ? length + 1 : 0);
            }
        }
    }

    private static void roomToBeMoved() {
        for (int metres = 28; metres <= 32; metres++) {
            WinterYard x = busyYard();
            x.come(9, 5, 5, LONG);
            x.come(19, 5, 5, LONG);
            x.mast(1, false);
            x.setRow(1, metres);
            x.lift(0, 0);
            x.lift(1, 1);
            check.due("10 and 20 of " + metres, x.move(0, 1), metres >= 30 ? 2 : FULL);
            check.due("taken", x.row(1, 1), metres >= 30 ? 30 : 20);
        }
    }

    /** "NOT_POSSIBLE if more are taken". */
    private static void noMoreCradlesThanAreTaken() {
        int[] due = {NOT_POSSIBLE, NOT_POSSIBLE, 4, 4, NONE, 4};
        for (int many = 0; many <= 5; many++) {
            WinterYard x = busyYard();
            comeMany(x, 2, 5, 5, FIN);
            x.lift(0, 0);
            x.lift(1, 0);
            check.due("2 are taken, " + many, x.setCradles(FIN, many), due[many]);
            check.due("cradles", x.cradle(FIN, 0), due[many] == 4 ? many : 4);
        }
    }

    private static void noFewerMetresThanAreTaken() {
        for (int metres = 10; metres <= 60; metres++) {
            WinterYard x = busyYard();
            comeMany(x, 3, 6, 5, FIN);
            x.lift(0, 3);
            x.lift(1, 3);
            x.lift(2, 3);
            int due = metres < 21 ? NOT_POSSIBLE : metres == 40 ? NONE : 40;
            check.due("21 are taken, " + metres, x.setRow(3, metres), due);
            check.due("metres", x.row(3, 0), due == 40 ? metres : 40);
            check.due("another row", x.setRow(2, metres), metres == 40 ? NONE : 40);
        }
    }

    /** "NONE if it is so already": the number itself, and not its neighbours. */
    private static void soAlready() {
        refused(check, "setCradles", Play::bringToLife, NONE, x -> x.setCradles(BILGE, 6));
        refused(check, "setRow", Play::bringToLife, NONE, x -> x.setRow(3, 55));
        refused(check, "set", Play::bringToLife, NONE, x -> x.set(1, 7));
        refused(check, "mast up", Play::bringToLife, NONE, x -> x.mast(0, true));
        refused(check, "mast off", Play::bringToLife, NONE, x -> x.mast(3, false));
        act(check, "setCradles", Play::bringToLife, 6, x -> x.setCradles(BILGE, 5));
        act(check, "setCradles", Play::bringToLife, 6, x -> x.setCradles(BILGE, 7));
        act(check, "setRow", Play::bringToLife, 55, x -> x.setRow(3, 54));
        act(check, "setRow", Play::bringToLife, 55, x -> x.setRow(3, 56));
        act(check, "set", Play::bringToLife, 7, x -> x.set(1, 6));
        act(check, "set", Play::bringToLife, 7, x -> x.set(1, 8));
    }

    /** "Its work is done"; "only those days count on which it is ashore". */
    private static void theWorkIsDone() {
        for (int passed = 1; passed <= 6; passed++) {
            WinterYard x = busyYard();
            x.come(5, 5, 5, LONG);
            x.come(5, 5, 5, LONG);
            x.work(0, 4);
            x.work(1, 4);
            x.pass(9);
            check.due("afloat nothing is done", x.boat(0, 8), 4);
            x.lift(0, 0);
            check.due("nor by the lift", x.boat(0, 8), 4);
            x.pass(passed);
            int left = Math.max(0, 4 - passed);
            check.due("left", x.boat(0, 8), left);
            check.due("afloat, left", x.boat(1, 8), 4);
            check.due("boats whose work is not done", x.count(5), left > 0 ? 2 : 1);
            check.due("launchReason", x.launchReason(0), left > 0 ? 2 : 0);
            check.due("launchDay", x.launchDay(0), Math.max(13, 9 + passed));
            check.due("launch", x.launch(0), left > 0 ? REFUSED - 2 : passed);
            check.due("goAway with work that is left", x.goAway(1), 1);
        }
    }

    /** "No boat stands farther out in its row." */
    private static void noBoatFartherOut() {
        WinterYard x = busyYard();
        comeMany(x, 4, 5, 5, FIN);
        x.lift(2, 1);
        x.lift(0, 1);
        x.lift(3, 1);
        x.lift(1, 0);
        int[] blockers = {1, 0, 2, 0};
        for (int boat = 0; boat < 4; boat++) {
            check.due("blockers of " + boat, x.blockers(boat), blockers[boat]);
            check.due("launchReason of " + boat, x.launchReason(boat), blockers[boat] > 0 ? 3 : 0);
            check.due("launchDay of " + boat, x.launchDay(boat), 0);
        }
        check.due("the outermost", x.launch(3), 0);
        check.due("then the next", x.launch(0), 0);
        check.due("then the innermost", x.launch(2), 0);
    }

    private static void onlyTheOutermostIsMoved() {
        WinterYard x = busyYard();
        comeMany(x, 3, 5, 5, FIN);
        x.lift(0, 1);
        x.lift(1, 1);
        x.lift(2, 1);
        check.due("the innermost", x.move(0, 2), NOT_POSSIBLE);
        check.due("the one between", x.move(1, 2), NOT_POSSIBLE);
        check.due("the outermost", x.move(2, 2), 1);
        check.due("then the next", x.move(1, 2), 2);
        check.due("it is the outermost there", x.stands(2, 1), 1);
        check.due("and the other is not any more", x.move(2, 0), NOT_POSSIBLE);
        check.due("to where it stands", x.move(1, 2), NOT_POSSIBLE);
    }

    /** "That of now if it could be launched now." */
    private static void theFirstLaunchDay() {
        for (int work = 0; work <= 20; work++) {
            for (int lifts = 1; lifts <= 2; lifts++) {
                WinterYard x = new WinterYard();
                x.come(5, 40, 5, LONG);
                x.set(1, lifts);
                x.lift(0, 0);
                if (work > 0) {
                    x.work(0, work);
                }
                // The tides from the day 0 on: 51 48 45 42 39 .., from the day 11 on 42 45 ..
                int first = Math.max(work, lifts == 1 ? 1 : 0);
                int day = first > 3 && first < 11 ? 11 : first > 17 && first < 25 ? 25 : first;
                check.due("work " + work + ", lifts " + lifts, x.launchDay(0), day);
            }
        }
    }

    /** "NONE if it is afloat, or there is no such day within 200." */
    private static void theLaunchDayWithin200() {
        WinterYard x = busyYard();
        x.come(5, 40, 5, LONG);
        x.lift(0, 0);
        x.work(0, 99);
        x.set(0, 1);
        check.due("36 is never as much as 40", x.launchDay(0), NONE);
        x.set(0, 2);
        check.due("44 is", x.launchDay(0), 99);
        x.work(0, 3);
        check.due("too much work is refused, so nothing changes", x.launchDay(0), 99);
        x.pass(1);
        x.work(0, 1);
        check.due("on the day 100, which has 40", x.launchDay(0), 100);
        x.pass(1);
        x.work(0, 1);
        check.due("99 days and those to the next tide", x.launchDay(0), 110);
        x.set(2, 4);
        check.due("the crane does not bear it", x.launchDay(0), NONE);
        x.set(2, 5);
        check.due("it does", x.launchDay(0), 110);
        WinterYard y = busyYard();
        y.come(5, 37, 5, LONG);
        y.lift(0, 0);
        y.set(0, 1);
        check.due("37 on the highest day alone", y.launchDay(0), 0);
        y.pass(1);
        check.due("the next highest", y.launchDay(0), 14);
        y.work(0, 99);
        check.due("after 100 days", y.launchDay(0), 112);
    }

    /** "The row with the fewest metres left in which a boat has room, of several the lowest." */
    private static void theFewestMetresLeft() {
        int[][] cases = {{40, 40, 40, 40, 0}, {40, 39, 40, 39, 1}, {12, 11, 10, 11, 2}, {12, 11, 12, 11, 1},
            {10, 10, 10, 10, 0}, {60, 60, 60, 59, 3}, {13, 12, 11, 60, 2}};
        for (int[] c : cases) {
            WinterYard x = busyYard();
            x.come(9, 5, 5, LONG);
            for (int row = 0; row < 4; row++) {
                x.setRow(row, c[row]);
            }
            check.due("the best row of " + c[0] + " " + c[1] + " " + c[2] + " " + c[3], x.bestRow(0), c[4]);
        }
        int[] rows = {10, 11, 12, 13};
        for (int length = 8; length <= 13; length++) {
            WinterYard x = busyYard();
            x.come(length, 40, 30, FIN);
            for (int row = 0; row < 4; row++) {
                x.setRow(row, rows[row]);
            }
            int best = length < 10 ? 0 : length > 12 ? NONE : length - 9;
            check.due("the best row of a boat of " + length, x.bestRow(0), best);
        }
    }

    /** "Wherever it is now; its own row does not count." */
    private static void itsOwnRowDoesNotCount() {
        WinterYard x = busyYard();
        comeMany(x, 2, 9, 5, FIN);
        x.setRow(2, 30);
        check.due("afloat", x.bestRow(0), 2);
        x.lift(0, 2);
        check.due("another boat", x.bestRow(1), 2);
        check.due("not its own", x.bestRow(0), 0);
        x.lift(1, 2);
        check.due("nor for an inner one", x.bestRow(0), 0);
        for (int row : new int[] {0, 1, 3}) {
            x.setRow(row, 10);
        }
        check.due("just room", x.bestRow(0), 0);
        WinterYard y = busyYard();
        y.come(12, 5, 5, FIN);
        y.mast(0, false);
        y.lift(0, 3);
        y.setRow(0, 12);
        y.setRow(1, 12);
        y.setRow(2, 12);
        check.due("room in its own alone", y.bestRow(0), NONE);
        y.setRow(1, 13);
        check.due("room in another", y.bestRow(0), 1);
    }
}
