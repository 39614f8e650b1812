import java.util.function.Consumer;

/** The range of every argument: all that are allowed, and those beyond each end. */
public final class RangesTest extends Play {
    private static final Check check = new Check("RangesTest");

    /** One argument of a call; the others are fine. */
    private interface Call {
        int with(WinterYard x, int value);
    }

    public static void main(String[] args) {
        aBoat();
        aBoatThatIsThere();
        aKeel();
        aKind();
        aRow();
        aSetting();
        lengthDraftWeight();
        cradlesOfAKind();
        metresOfARow();
        valueOfTheTideSetting();
        valueOfTheLiftsSetting();
        valueOfTheCraneSetting();
        daysOfWork();
        daysThatPass();
        aDayOfTheTide();
        aRank();
        whatIsToldOfABoat();
        whatIsToldOfARow();
        whatIsToldOfACradle();
        whatIsToldOfAStop();
        whatIsCounted();
        anyCharacter();
        bothWaysOfAMast();
        check.end();
    }

    /** Each value of the range has another answer than the error; each beyond it has the error. */
    private static void range(String name, int least, int most, int error, Consumer<WinterYard> before, Call call) {
        for (int value = least; value <= most; value++) {
            WinterYard x = new WinterYard();
            before.accept(x);
            int got = call.with(x, value);
            check.holds(name + " " + value + " is allowed, but answered " + got, got != error);
        }
        int[] beyond = {least - 1, least - 2, most + 1, most + 2, least - 100, most + 100, LOW, LOW + 1, HIGH, HIGH - 1};
        for (int value : beyond) {
            refused(check, name + " " + value, before, error, x -> call.with(x, value));
        }
    }

    private static void twentyBoats(WinterYard x) {
        makeBusy(x);
        comeMany(x, 20, 5, 3, FIN);
        x.lift(0, 1);
        x.lift(19, 1);
    }

    /** "Boats, 0 to 19". */
    private static void aBoat() {
        range("goAway, boat", 0, 19, UNKNOWN, RangesTest::twentyBoats, (x, b) -> x.goAway(b));
        range("lift, boat", 0, 19, UNKNOWN, RangesTest::twentyBoats, (x, b) -> x.lift(b, 0));
        range("launch, boat", 0, 19, UNKNOWN, RangesTest::twentyBoats, (x, b) -> x.launch(b));
        range("move, boat", 0, 19, UNKNOWN, RangesTest::twentyBoats, (x, b) -> x.move(b, 0));
        range("mast off, boat", 0, 19, UNKNOWN, RangesTest::twentyBoats, (x, b) -> x.mast(b, false));
        range("mast up, boat", 0, 19, UNKNOWN, RangesTest::twentyBoats, (x, b) -> x.mast(b, true));
        range("work, boat", 0, 19, UNKNOWN, RangesTest::twentyBoats, (x, b) -> x.work(b, 1));
        range("boat, boat", 0, 19, UNKNOWN, RangesTest::twentyBoats, (x, b) -> x.boat(b, 0));
        range("liftReason, boat", 0, 19, UNKNOWN, RangesTest::twentyBoats, (x, b) -> x.liftReason(b, 0));
        range("launchReason, boat", 0, 19, UNKNOWN, RangesTest::twentyBoats, (x, b) -> x.launchReason(b));
        range("blockers, boat", 0, 19, UNKNOWN, RangesTest::twentyBoats, (x, b) -> x.blockers(b));
        range("launchDay, boat", 0, 19, UNKNOWN, RangesTest::twentyBoats, (x, b) -> x.launchDay(b));
        range("bestRow, boat", 0, 19, UNKNOWN, RangesTest::twentyBoats, (x, b) -> x.bestRow(b));
    }

    private static void onlyTwo(WinterYard x) {
        bringToLife(x);
        x.goAway(0);
    }

    /** A number that no boat has is as unknown as one beyond the range. */
    private static void aBoatThatIsThere() {
        for (int boat : new int[] {0, 5, 19}) {
            int b = boat;
            refused(check, "goAway of none", RangesTest::onlyTwo, UNKNOWN, x -> x.goAway(b));
            refused(check, "lift of none", RangesTest::onlyTwo, UNKNOWN, x -> x.lift(b, 0));
            refused(check, "launch of none", RangesTest::onlyTwo, UNKNOWN, x -> x.launch(b));
            refused(check, "move of none", RangesTest::onlyTwo, UNKNOWN, x -> x.move(b, 0));
            refused(check, "mast of none, off", RangesTest::onlyTwo, UNKNOWN, x -> x.mast(b, false));
            refused(check, "mast of none, up", RangesTest::onlyTwo, UNKNOWN, x -> x.mast(b, true));
            refused(check, "work on none", RangesTest::onlyTwo, UNKNOWN, x -> x.work(b, 1));
            refused(check, "boat of none", RangesTest::onlyTwo, UNKNOWN, x -> x.boat(b, 0));
            refused(check, "liftReason of none", RangesTest::onlyTwo, UNKNOWN, x -> x.liftReason(b, 0));
            refused(check, "launchReason of none", RangesTest::onlyTwo, UNKNOWN, x -> x.launchReason(b));
            refused(check, "blockers of none", RangesTest::onlyTwo, UNKNOWN, x -> x.blockers(b));
            refused(check, "launchDay of none", RangesTest::onlyTwo, UNKNOWN, x -> x.launchDay(b));
            refused(check, "bestRow of none", RangesTest::onlyTwo, UNKNOWN, x -> x.bestRow(b));
        }
    }

    /** "Keel: 0 to 2". */
    private static void aKeel() {
        range("come, keel", 0, 2, UNKNOWN, Play::bringToLife, (x, keel) -> x.come(5, 5, 5, keel));
        for (int keel = 0; keel < 3; keel++) {
            WinterYard x = new WinterYard();
            x.come(5, 5, 5, keel);
            check.due("the keel that came", x.boat(0, 3), keel);
        }
    }

    /** "Kind: 0 to 2". */
    private static void aKind() {
        range("setCradles, kind", 0, 2, UNKNOWN, Play::bringToLife, (x, kind) -> x.setCradles(kind, 5));
        range("cradle, kind", 0, 2, UNKNOWN, Play::bringToLife, (x, kind) -> x.cradle(kind, 0));
    }

    /** "Row: 0 to 3". */
    private static void aRow() {
        range("setRow, row", 0, 3, UNKNOWN, Play::bringToLife, (x, row) -> x.setRow(row, 50));
        range("lift, row", 0, 3, UNKNOWN, Play::bringToLife, (x, row) -> x.lift(0, row));
        range("move, row", 0, 3, UNKNOWN, Play::bringToLife, (x, row) -> x.move(2, row));
        range("row, row", 0, 3, UNKNOWN, Play::bringToLife, (x, row) -> x.row(row, 0));
        range("stands, row", 0, 3, UNKNOWN, Play::bringToLife, (x, row) -> x.stands(row, 0));
        range("liftReason, row", 0, 3, UNKNOWN, Play::bringToLife, (x, row) -> x.liftReason(0, row));
    }

    /** "Which: 0 to 2". */
    private static void aSetting() {
        range("set, which", 0, 2, UNKNOWN, Play::bringToLife, (x, which) -> x.set(which, 2));
    }

    /** "A length (3 to 20 metres), a draft (5 to 40), a weight (1 to 30 tons)". */
    private static void lengthDraftWeight() {
        for (int keel = 0; keel < 3; keel++) {
            int k = keel;
            range("come, length", 3, 20, BAD_VALUE, Play::bringToLife, (x, length) -> x.come(length, 5, 5, k));
            range("come, draft", 5, 40, BAD_VALUE, Play::bringToLife, (x, draft) -> x.come(5, draft, 5, k));
            range("come, weight", 1, 30, BAD_VALUE, Play::bringToLife, (x, weight) -> x.come(5, 5, weight, k));
        }
        int[][] ends = {{3, 5, 1}, {20, 40, 30}, {3, 40, 1}, {20, 5, 30}, {3, 5, 30}, {20, 40, 1}};
        for (int[] e : ends) {
            WinterYard x = new WinterYard();
            check.due("a boat of the ends of the ranges", x.come(e[0], e[1], e[2], LONG), 0);
            for (int what = 0; what < 3; what++) {
                check.due("is told as it came, " + what, x.boat(0, what), e[what]);
            }
        }
    }

    /** "Some cradles (0 to 9; 4 of each at first)". */
    private static void cradlesOfAKind() {
        for (int kind = 0; kind < 3; kind++) {
            int k = kind;
            range("setCradles, many", 0, 9, BAD_VALUE, RangesTest::twentyBoats, (x, many) -> x.setCradles(k, many));
            check.due("4 at first", new WinterYard().cradle(kind, 0), 4);
            for (int many : new int[] {0, 1, 8, 9}) {
                WinterYard x = new WinterYard();
                check.due("setCradles", x.setCradles(kind, many), 4);
                check.due("cradles", x.cradle(kind, 0), many);
            }
        }
    }

    /** "As many metres as are set (10 to 60; 40 at first)". */
    private static void metresOfARow() {
        for (int row = 0; row < 4; row++) {
            int r = row;
            range("setRow, metres", 10, 60, BAD_VALUE, Play::bringToLife, (x, metres) -> x.setRow(r, metres));
            check.due("40 at first", new WinterYard().row(row, 0), 40);
            for (int metres : new int[] {10, 11, 59, 60}) {
                WinterYard x = new WinterYard();
                check.due("setRow", x.setRow(row, metres), 40);
                check.due("metres", x.row(row, 0), metres);
            }
        }
    }

    private static void settingIs(int which, int first, int value) {
        WinterYard x = new WinterYard();
        check.due("the setting " + which + " at first", x.count(10 + which), first);
        check.due("set(" + which + ", " + value + ")", x.set(which, value), first == value ? NONE : first);
        check.due("the setting then", x.count(10 + which), value);
    }

    /** "The setting 0 (0 to 9; 3 at first)". */
    private static void valueOfTheTideSetting() {
        range("set, value of 0", 0, 9, BAD_VALUE, Play::bringToLife, (x, value) -> x.set(0, value));
        for (int value = 0; value <= 9; value++) {
            settingIs(0, 3, value);
        }
    }

    /** "The setting 1 tells (1 to 9; 4 at first)". */
    private static void valueOfTheLiftsSetting() {
        range("set, value of 1", 1, 9, BAD_VALUE, Play::bringToLife, (x, value) -> x.set(1, value));
        for (int value = 1; value <= 9; value++) {
            settingIs(1, 4, value);
        }
    }

    /** "The setting 2: 1 to 30; 20 at first". */
    private static void valueOfTheCraneSetting() {
        range("set, value of 2", 1, 30, BAD_VALUE, Play::bringToLife, (x, value) -> x.set(2, value));
        for (int value = 1; value <= 30; value++) {
            settingIs(2, 20, value);
        }
    }

    /** "Days: 1 to 99" of work(). */
    private static void daysOfWork() {
        range("work, days", 1, 99, BAD_VALUE, RangesTest::twentyBoats, (x, days) -> x.work(3, days));
        for (int days : new int[] {1, 2, 98, 99}) {
            WinterYard x = new WinterYard();
            x.come(5, 5, 5, LONG);
            check.due("work", x.work(0, days), days);
            check.due("work that is left", x.boat(0, 8), days);
        }
    }

    /** "Days: 1 to 99" of pass(). */
    private static void daysThatPass() {
        range("pass, days", 1, 99, BAD_VALUE, Play::bringToLife, (x, days) -> x.pass(days));
        for (int days : new int[] {1, 2, 98, 99}) {
            WinterYard x = new WinterYard();
            check.due("pass", x.pass(days), x.tide(days));
            check.due("the day", x.count(0), days);
        }
    }

    /** "Day: 0 to 9999". */
    private static void aDayOfTheTide() {
        range("tide, day", 0, 9999, BAD_VALUE, x -> { }, (x, day) -> x.tide(day));
    }

    /** "BAD_VALUE if rank is negative"; a great one is none. */
    private static void aRank() {
        for (int rank : new int[] {-1, -2, NONE, LOW, LOW + 1}) {
            refused(check, "stands, rank " + rank, Play::bringToLife, BAD_VALUE, x -> x.stands(2, rank));
        }
        for (int rank : new int[] {2, 3, 19, 20, HIGH - 1, HIGH}) {
            refused(check, "stands, rank " + rank, RangesTest::twentyBoats, NONE, x -> x.stands(1, rank));
        }
    }

    private static void whatIsToldOfABoat() {
        range("boat, what", 0, 10, BAD_VALUE, Play::bringToLife, (x, what) -> x.boat(1, what));
        range("boat afloat, what", 0, 10, BAD_VALUE, Play::bringToLife, (x, what) -> x.boat(0, what));
    }

    private static void whatIsToldOfARow() {
        range("row, what", 0, 3, BAD_VALUE, Play::bringToLife, (x, what) -> x.row(2, what));
        range("an empty row, what", 0, 3, BAD_VALUE, Play::bringToLife, (x, what) -> x.row(3, what));
    }

    private static void whatIsToldOfACradle() {
        range("cradle, what", 0, 2, BAD_VALUE, Play::bringToLife, (x, what) -> x.cradle(0, what));
    }

    private static void whatIsToldOfAStop() {
        range("stopped, what", 0, 1, BAD_VALUE, Play::bringToLife, (x, what) -> x.stopped(what));
        range("stopped, what, without one", 0, 1, BAD_VALUE, x -> { }, (x, what) -> x.stopped(what));
    }

    private static void whatIsCounted() {
        range("count, what", 0, 14, BAD_VALUE, Play::bringToLife, (x, what) -> x.count(what));
    }

    /** "Character: any character". */
    private static void anyCharacter() {
        for (int from = 0; from <= 65535; from += 60) {
            WinterYard x = new WinterYard();
            int most = Math.min(60, 65536 - from);
            for (int i = 0; i < most; i++) {
                check.due("the character " + (from + i), x.type((char) (from + i)), i + 1);
            }
        }
    }

    private static void bothWaysOfAMast() {
        WinterYard x = new WinterYard();
        x.come(5, 5, 5, LONG);
        check.due("up", x.mast(0, true), NONE);
        check.due("off", x.mast(0, false), 0);
        check.due("off again", x.mast(0, false), NONE);
        check.due("up again", x.mast(0, true), 0);
    }
}
