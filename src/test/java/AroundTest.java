/** What comes round again: the tide, the lifts of a new day, the lowest free number, the oldest state. */
public final class AroundTest extends Play {
    private static final Check check = new Check("AroundTest");

    public static void main(String[] args) {
        theTideOfEachDay();
        theTideOfToday();
        theTideOfLaunchDays();
        theLiftsOfANewDay();
        theLiftsOfANewDayAfterALowerSetting();
        theLiftsThatUndoGivesBack();
        theLowestNumberThatNoneHas();
        aNumberThatComesAgainIsAnotherBoat();
        theOldestStateIsDropped();
        theOldestStateIsDroppedAgainAndAgain();
        whatAnUndoOpensIsRecordedAgain();
        check.end();
    }

    /** "30, and the setting 0 times the distance of (d modulo 14) from 7, together". */
    private static void theTideOfEachDay() {
        int[] distance = {7, 6, 5, 4, 3, 2, 1, 0, 1, 2, 3, 4, 5, 6};
        for (int setting = 0; setting <= 9; setting++) {
            WinterYard x = null;
            for (int day = 0; day <= 9999; day++) {
                if (day % 500 == 0) {
                    x = new WinterYard();
                    x.set(0, setting);
                }
                check.due("setting " + setting + ", day " + day, x.tide(day), 30 + setting * distance[day % 14]);
            }
        }
        WinterYard x = new WinterYard();
        for (int day : new int[] {7, 21, 35, 49, 9989 - 9989 % 14 + 7}) {
            check.due("lowest on " + day, x.tide(day), 30);
            check.due("one more before", x.tide(day - 1), 33);
            check.due("one more after", x.tide(day + 1), 33);
        }
        for (int day : new int[] {0, 14, 28, 9996}) {
            check.due("highest on " + day, x.tide(day), 51);
            check.due("less after", x.tide(day + 1), 48);
        }
    }

    /** The tide of the day that is come is that which was told before. */
    private static void theTideOfToday() {
        for (int step : new int[] {1, 13, 14, 15, 99}) {
            WinterYard x = new WinterYard();
            for (int i = 1; i <= 40; i++) {
                int want = x.tide(i * step);
                check.due("pass", x.pass(step), want);
                check.due("the tide now", x.count(1), want);
            }
        }
        WinterYard x = new WinterYard();
        x.pass(12);
        check.due("two days before the highest", x.count(1), 45);
        x.set(0, 9);
        check.due("with another setting", x.count(1), 30 + 9 * 5);
        check.due("of other days, too", x.tide(7), 30);
    }

    private static void theTideOfLaunchDays() {
        // A draft of 42 is not allowed, so that a setting of 2 brings the edge: 44 - 4 = 40 on the days 12 to 16.
        for (int day = 0; day < 30; day++) {
            WinterYard x = new WinterYard();
            x.set(0, 2);
            x.come(5, 40, 5, LONG);
            x.lift(0, 0);
            passDays(x, day);
            int inRound = day % 14;
            int wait = inRound > 2 && inRound < 12 ? 12 - inRound : 0;
            check.due("on the day " + day, x.launchDay(0), day + wait);
            check.due("reason", x.launchReason(0), wait == 0 ? 0 : 4);
        }
    }

    /** "Left today are as many, less those done on this day". */
    private static void theLiftsOfANewDay() {
        WinterYard x = new WinterYard();
        x.come(3, 5, 1, LONG);
        for (int day = 0; day < 5; day++) {
            check.due("left at first", x.count(2), 4);
            for (int done = 0; done < 4; done++) {
                check.due("a lift", done % 2 == 0 ? x.lift(0, 0) : x.launch(0), done % 2 == 0 ? 1 : 0);
            }
            check.due("none is left", x.count(2), 0);
            check.due("so far", x.count(6), 4 * day + 4);
            check.due("refused", x.lift(0, 0), REFUSED - 7);
            x.pass(day + 1);
        }
        check.due("a day with some left", x.lift(0, 0), 1);
        check.due("left", x.count(2), 3);
        x.pass(1);
        check.due("they do not add up", x.count(2), 4);
    }

    /** "(0 at least)": a setting below what was done. */
    private static void theLiftsOfANewDayAfterALowerSetting() {
        WinterYard x = new WinterYard();
        x.come(3, 5, 1, LONG);
        x.lift(0, 0);
        x.launch(0);
        x.lift(0, 0);
        int[] left = {0, 0, 0, 1, 2, 3, 4, 5, 6};
        for (int lifts = 1; lifts <= 9; lifts++) {
            x.set(1, lifts);
            check.due("3 of " + lifts + " are done", x.count(2), left[lifts - 1]);
            check.due("reason", x.launchReason(0), left[lifts - 1] == 0 ? 6 : 0);
        }
        x.set(1, 1);
        x.pass(1);
        check.due("on a new day", x.count(2), 1);
        check.due("a launch", x.launch(0), 1);
        check.due("none is left", x.count(2), 0);
    }

    private static void theLiftsThatUndoGivesBack() {
        WinterYard x = new WinterYard();
        x.come(3, 5, 1, LONG);
        x.lift(0, 0);
        x.move(0, 1);
        x.move(0, 2);
        x.pass(1);
        check.due("a new day", x.count(2), 4);
        x.undo();
        check.due("the old day again", x.count(2), 1);
        x.undo();
        check.due("without its last lift", x.count(2), 2);
        check.due("lifts so far", x.count(6), 2);
    }

    /** "A new one gets the lowest number that none has". */
    private static void theLowestNumberThatNoneHas() {
        WinterYard x = new WinterYard();
        comeMany(x, 20, 5, 5, LONG);
        for (int boat : new int[] {13, 4, 19, 0, 7}) {
            x.goAway(boat);
        }
        for (int boat : new int[] {0, 4, 7, 13, 19}) {
            check.due("the lowest", x.come(5, 5, 5, LONG), boat);
        }
        check.due("none is left", x.come(5, 5, 5, LONG), FULL);
        for (int boat = 0; boat < 20; boat++) {
            check.due("goes", x.goAway(boat), 19);
            check.due("comes", x.come(5, 5, 5, LONG), boat);
        }
        WinterYard y = new WinterYard();
        comeMany(y, 3, 5, 5, LONG);
        y.goAway(0);
        y.goAway(1);
        check.due("0 is free", y.come(5, 5, 5, LONG), 0);
        y.goAway(2);
        check.due("1 is free", y.come(5, 5, 5, LONG), 1);
        check.due("2 is free", y.come(5, 5, 5, LONG), 2);
        check.due("then 3", y.come(5, 5, 5, LONG), 3);
    }

    private static void aNumberThatComesAgainIsAnotherBoat() {
        WinterYard x = busyYard();
        x.come(12, 20, 5, LONG);
        x.mast(0, false);
        x.lift(0, 1);
        x.work(0, 3);
        x.pass(14);
        x.launch(0);
        x.mast(0, true);
        x.work(0, 50);
        x.goAway(0);
        x.come(4, 6, 2, FIN);
        int[] facts = {4, 6, 2, FIN, NONE, NONE, NONE, NONE, 0, 0, 0};
        for (int what = 0; what < facts.length; what++) {
            check.due("fact " + what, x.boat(0, what), facts[what]);
        }
        check.due("lifts so far stay", x.count(6), 2);
        check.due("launches, too", x.count(7), 1);
        check.due("no work", x.count(5), 0);
    }

    /** "When one more is recorded, the oldest one is dropped". */
    private static void theOldestStateIsDropped() {
        for (int acts = 1; acts <= 6; acts++) {
            WinterYard x = new WinterYard();
            for (int i = 0; i < acts; i++) {
                x.come(3 + i, 5, 1, LONG);
            }
            int back = Math.min(acts, 4);
            check.due("states", x.count(13), back);
            for (int undone = 1; undone <= back; undone++) {
                check.due("left", x.undo(), back - undone);
                check.due("boats", x.count(3), acts - undone);
            }
            check.due("no more", x.undo(), NONE);
            check.due("boats", x.count(3), acts - back);
        }
    }

    private static void theOldestStateIsDroppedAgainAndAgain() {
        WinterYard x = new WinterYard();
        for (int day = 1; day <= 50; day++) {
            x.pass(1);
            check.due("states", x.count(13), Math.min(day, 4));
            if (day % 7 == 0) {
                for (int i = 1; i <= 4; i++) {
                    check.due("undo", x.undo(), 4 - i);
                    check.due("the day", x.count(0), day - i);
                }
                check.due("no more", x.undo(), NONE);
                x.pass(1);
                x.pass(1);
                x.pass(1);
                x.pass(1);
                check.due("four again", x.count(13), 4);
                check.due("the day", x.count(0), day);
            }
        }
    }

    private static void whatAnUndoOpensIsRecordedAgain() {
        WinterYard x = new WinterYard();
        comeMany(x, 5, 5, 5, LONG);
        x.undo();
        x.undo();
        x.pass(1);
        check.due("states", x.count(13), 3);
        x.pass(2);
        check.due("states", x.count(13), 4);
        x.pass(4);
        check.due("states", x.count(13), 4);
        int[][] told = {{3, 3}, {1, 3}, {0, 3}, {0, 2}};
        for (int i = 0; i < 4; i++) {
            check.due("undo", x.undo(), 3 - i);
            check.due("the day", x.count(0), told[i][0]);
            check.due("boats", x.count(3), told[i][1]);
        }
        check.due("no more", x.undo(), NONE);
    }
}
