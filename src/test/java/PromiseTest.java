/** For each promise: ordinary inputs, the edges that the document names, and wrong inputs. */
public final class PromiseTest extends Play {
    private static final Check check = new Check("PromiseTest");
    private static int promise = 0;

    public static void main(String[] args) {
        constants();
        newObject();
        come();
        goAway();
        setCradles();
        setRow();
        set();
        lift();
        launch();
        move();
        mast();
        work();
        pass();
        type();
        clearText();
        perform();
        performRollsBack();
        plansFaults();
        stopped();
        undo();
        keep();
        restore();
        boat();
        row();
        stands();
        cradle();
        tide();
        liftReason();
        launchReason();
        blockers();
        launchDay();
        bestRow();
        count();
        errorsChangeNothing();
        check.end();
    }

    private static void due(String what, long got, long want) {
        check.due("promise " + promise + ": " + what, got, want);
    }

    private static void counts(String when, WinterYard x, int... wants) {
        for (int what = 0; what < wants.length; what++) {
            due(when + ", count(" + what + ")", x.count(what), wants[what]);
        }
    }

    private static void constants() {
        due("UNKNOWN", WinterYard.UNKNOWN, UNKNOWN);
        due("BAD_VALUE", WinterYard.BAD_VALUE, BAD_VALUE);
        due("FULL", WinterYard.FULL, FULL);
        due("NOT_POSSIBLE", WinterYard.NOT_POSSIBLE, NOT_POSSIBLE);
        due("NONE", WinterYard.NONE, NONE);
        due("REFUSED", WinterYard.REFUSED, REFUSED);
    }

    private static void newObject() {
        promise = 1;
        WinterYard x = new WinterYard();
        counts("new", x, 0, 51, 4, 0, 0, 0, 0, 0, 0, 0, 3, 4, 20, 0, 0);
        for (int row = 0; row < 4; row++) {
            due("metres", x.row(row, 0), 40);
            due("taken", x.row(row, 1), 0);
            due("boats", x.row(row, 2), 0);
            due("farthest out", x.row(row, 3), NONE);
        }
        for (int kind = 0; kind < 3; kind++) {
            due("cradles", x.cradle(kind, 0), 4);
            due("cradles taken", x.cradle(kind, 1), 0);
        }
        for (int boat = 0; boat < 20; boat++) {
            due("boat", x.boat(boat, 0), UNKNOWN);
        }
        due("undo", x.undo(), NONE);
        due("restore", x.restore(), NONE);
        due("stopped", x.stopped(0), NONE);
        due("perform", x.perform(), -100);
        due("two objects", new WinterYard().come(5, 5, 5, 0), 0);
        due("are apart", x.count(3), 0);
    }

    private static void come() {
        promise = 2;
        WinterYard x = new WinterYard();
        due("least", x.come(3, 5, 1, 0), 0);
        due("greatest", x.come(20, 40, 30, 2), 1);
        due("a fin", x.come(7, 12, 3, 1), 2);
        due("keel 3 ahead of values", x.come(2, 4, 0, 3), UNKNOWN);
        due("keel -1", x.come(5, 5, 5, -1), UNKNOWN);
        due("keel high", x.come(5, 5, 5, HIGH), UNKNOWN);
        int[][] bad = {{2, 5, 1}, {21, 5, 1}, {3, 4, 1}, {3, 41, 1}, {3, 5, 0}, {3, 5, 31},
            {LOW, 5, 1}, {HIGH, 5, 1}, {3, LOW, 1}, {3, HIGH, 1}, {3, 5, LOW}, {3, 5, HIGH}};
        for (int[] b : bad) {
            due("come(" + b[0] + ", " + b[1] + ", " + b[2] + ")", x.come(b[0], b[1], b[2], 0), BAD_VALUE);
        }
        counts("three", x, 0, 51, 4, 3, 0, 0, 0, 0, 0, 0, 3, 4, 20, 3);
        int[] facts = {7, 12, 3, 1, NONE, NONE, NONE, NONE, 0, 0, 0};
        for (int what = 0; what < facts.length; what++) {
            due("fact " + what, x.boat(2, what), facts[what]);
        }
        x.goAway(1);
        due("lowest free", x.come(4, 6, 2, 2), 1);
        due("its length", x.boat(1, 0), 4);
        for (int boat = 3; boat < 20; boat++) {
            due("next", x.come(3, 5, 1, 0), boat);
        }
        due("20 are all", x.come(3, 5, 1, 0), FULL);
        due("a bad one of 20", x.come(3, 5, 0, 0), BAD_VALUE);
        due("an unknown one of 20", x.come(3, 5, 1, 3), UNKNOWN);
        x.goAway(7);
        due("again", x.come(3, 5, 1, 0), 7);
        due("undo", x.undo(), 3);
        due("gone by undo", x.boat(7, 0), UNKNOWN);
    }

    private static void goAway() {
        promise = 3;
        WinterYard x = new WinterYard();
        comeMany(x, 3, 5, 3, 1);
        due("unknown", x.goAway(3), UNKNOWN);
        due("negative", x.goAway(-1), UNKNOWN);
        due("20", x.goAway(20), UNKNOWN);
        due("low", x.goAway(LOW), UNKNOWN);
        due("high", x.goAway(HIGH), UNKNOWN);
        x.lift(0, 2);
        due("ashore", x.goAway(0), NOT_POSSIBLE);
        x.mast(1, false);
        due("mast off", x.goAway(1), NOT_POSSIBLE);
        due("afloat", x.goAway(2), 2);
        due("twice", x.goAway(2), UNKNOWN);
        x.mast(1, true);
        due("mast up again", x.goAway(1), 1);
        x.launch(0);
        due("launched", x.goAway(0), 0);
        due("undo", x.undo(), 3);
        due("is back", x.boat(0, 0), 5);
        due("lifted once", x.boat(0, 10), 1);
        x.work(0, 9);
        x.goAway(0);
        due("for good", x.boat(0, 0), UNKNOWN);
        due("no work left", x.count(5), 0);
        x.come(6, 6, 6, 0);
        due("a new boat has no work", x.boat(0, 8), 0);
        due("nor was it lifted", x.boat(0, 10), 0);
    }

    private static void setCradles() {
        promise = 4;
        WinterYard x = busyYard();
        due("kind 3", x.setCradles(3, 10), UNKNOWN);
        due("kind -1", x.setCradles(-1, 1), UNKNOWN);
        due("kind high", x.setCradles(HIGH, 1), UNKNOWN);
        due("10", x.setCradles(0, 10), BAD_VALUE);
        due("-1", x.setCradles(0, -1), BAD_VALUE);
        due("so already", x.setCradles(1, 4), NONE);
        due("NONE is no act", x.count(13), 2);
        due("9", x.setCradles(0, 9), 4);
        due("5", x.setCradles(0, 5), 9);
        due("0", x.setCradles(2, 0), 4);
        due("told", x.cradle(0, 0), 5);
        due("told", x.cradle(1, 0), 4);
        due("told", x.cradle(2, 0), 0);
        comeMany(x, 3, 5, 3, 1);
        x.lift(0, 0);
        x.lift(1, 0);
        due("more are taken", x.setCradles(1, 1), NOT_POSSIBLE);
        due("as many", x.setCradles(1, 2), 4);
        due("all taken, so already", x.setCradles(1, 2), NONE);
        due("none is free", x.lift(2, 0), REFUSED - 4);
        x.launch(1);
        due("one is free", x.setCradles(1, 1), 2);
        due("undo", x.undo(), 3);
        due("2 again", x.cradle(1, 0), 2);
    }

    private static void setRow() {
        promise = 5;
        WinterYard x = busyYard();
        due("row 4", x.setRow(4, 9), UNKNOWN);
        due("row -1", x.setRow(-1, 10), UNKNOWN);
        due("row high", x.setRow(HIGH, 10), UNKNOWN);
        due("9", x.setRow(0, 9), BAD_VALUE);
        due("61", x.setRow(0, 61), BAD_VALUE);
        due("so already", x.setRow(0, 40), NONE);
        due("NONE is no act", x.count(13), 2);
        due("10", x.setRow(0, 10), 40);
        due("60", x.setRow(3, 60), 40);
        due("told", x.row(0, 0), 10);
        due("told", x.row(1, 0), 40);
        due("told", x.row(3, 0), 60);
        comeMany(x, 2, 9, 3, 1);
        due("just room", x.lift(0, 0), 1);
        due("none for two", x.lift(1, 0), REFUSED - 5);
        due("20", x.setRow(0, 20), 10);
        due("for two", x.lift(1, 0), 2);
        due("more are taken", x.setRow(0, 19), NOT_POSSIBLE);
        due("so already", x.setRow(0, 20), NONE);
        due("more", x.setRow(0, 21), 20);
        due("as many", x.setRow(0, 20), 21);
        due("undo", x.undo(), 3);
        due("21 again", x.row(0, 0), 21);
    }

    private static void set() {
        promise = 6;
        WinterYard x = new WinterYard();
        due("3", x.set(3, HIGH), UNKNOWN);
        due("-1", x.set(-1, 1), UNKNOWN);
        due("low", x.set(LOW, 1), UNKNOWN);
        int[][] bad = {{0, -1}, {0, 10}, {1, 0}, {1, 10}, {2, 0}, {2, 31}, {0, LOW}, {2, HIGH}};
        for (int[] b : bad) {
            due("set(" + b[0] + ", " + b[1] + ")", x.set(b[0], b[1]), BAD_VALUE);
        }
        due("so already", x.set(0, 3), NONE);
        due("so already", x.set(1, 4), NONE);
        due("so already", x.set(2, 20), NONE);
        due("no act yet", x.count(13), 0);
        due("tide 9", x.set(0, 9), 3);
        due("tide 0", x.set(0, 0), 9);
        due("lifts 9", x.set(1, 9), 4);
        due("lifts 1", x.set(1, 1), 9);
        due("crane 30", x.set(2, 30), 20);
        due("crane 1", x.set(2, 1), 30);
        counts("set", x, 0, 30, 1, 0, 0, 0, 0, 0, 0, 0, 0, 1, 1, 4);
        due("undo", x.undo(), 3);
        due("30 again", x.count(12), 30);
    }

    private static void lift() {
        promise = 7;
        WinterYard x = busyYard();
        comeMany(x, 4, 9, 3, 1);
        due("unknown boat", x.lift(4, 0), UNKNOWN);
        due("unknown row", x.lift(0, 4), UNKNOWN);
        due("row -1", x.lift(0, -1), UNKNOWN);
        due("row high", x.lift(0, HIGH), UNKNOWN);
        due("boat low", x.lift(LOW, 0), UNKNOWN);
        due("first", x.lift(2, 3), 1);
        due("second", x.lift(0, 3), 2);
        due("other row", x.lift(1, 1), 1);
        due("ashore", x.lift(1, 2), REFUSED - 1);
        due("row", x.boat(0, 4), 3);
        due("place", x.boat(0, 5), 1);
        due("cradle", x.boat(0, 6), 1);
        due("ashore for", x.boat(0, 9), 0);
        due("lifted", x.boat(0, 10), 1);
        due("metres", x.row(3, 1), 20);
        counts("lifted", x, 0, 51, 6, 4, 3, 0, 3, 0, 0, 0, 3, 9, 30, 4);
        due("undo", x.undo(), 3);
        due("afloat again", x.boat(1, 4), NONE);
        due("its lift is left again", x.count(2), 7);
        cradlesThatFit();
    }

    /** Each boat: weight, keel, and the kind of the cradle it gets, or NONE. */
    private static void cradlesThatFit() {
        int[][] allFree = {{30, 0, 0}, {1, 0, 0}, {12, 1, 1}, {13, 1, NONE}, {20, 2, 2}, {21, 2, NONE}, {1, 2, 2}};
        int[][] noBilge = {{15, 2, 0}, {16, 2, NONE}, {20, 2, NONE}, {1, 2, 0}, {12, 1, 1}, {30, 0, 0}};
        int[][] noLong = {{10, 0, 2}, {11, 0, NONE}, {30, 0, NONE}, {1, 0, 2}, {20, 2, 2}};
        int[][] noFin = {{1, 1, NONE}, {12, 1, NONE}, {30, 0, 0}, {20, 2, 2}};
        int[][][] cases = {allFree, noBilge, noLong, noFin};
        int[] missing = {NONE, 2, 0, 1};
        for (int i = 0; i < cases.length; i++) {
            for (int[] c : cases[i]) {
                WinterYard x = busyYard();
                x.setCradles(missing[i], 0);
                x.come(5, 5, c[0], c[1]);
                String told = "weight " + c[0] + ", keel " + c[1] + ", without kind " + missing[i];
                due(told, x.lift(0, 0), c[2] == NONE ? REFUSED - 4 : 1);
                due(told + ", cradle", x.boat(0, 6), c[2]);
            }
        }
        takenCradles();
    }

    private static void takenCradles() {
        WinterYard x = busyYard();
        x.setCradles(0, 1);
        x.setCradles(2, 1);
        comeMany(x, 3, 5, 10, 0);
        x.lift(0, 0);
        due("the second into one for bilge keels", x.lift(1, 0), 2);
        due("kind", x.boat(1, 6), 2);
        due("the third into none", x.lift(2, 0), REFUSED - 4);
        x.launch(1);
        due("when one is free again", x.lift(2, 0), 2);
        due("kind", x.boat(2, 6), 2);
    }

    private static void launch() {
        promise = 8;
        WinterYard x = busyYard();
        comeMany(x, 2, 9, 3, 1);
        due("unknown", x.launch(2), UNKNOWN);
        due("high", x.launch(HIGH), UNKNOWN);
        due("afloat", x.launch(0), REFUSED - 1);
        x.lift(0, 0);
        due("on the same day", x.launch(0), 0);
        x.lift(0, 0);
        x.lift(1, 0);
        due("inner", x.launch(0), REFUSED - 3);
        x.pass(14);
        due("outer", x.launch(1), 14);
        x.pass(99);
        due("inner now", x.launch(0), 113);
        due("row", x.boat(0, 4), NONE);
        due("place", x.boat(0, 5), NONE);
        due("cradle", x.boat(0, 6), NONE);
        due("ashore for", x.boat(0, 9), 0);
        due("lifted", x.boat(0, 10), 2);
        due("cradles", x.cradle(1, 1), 0);
        due("metres", x.row(0, 1), 0);
        counts("launched", x, 113, 51 - 3 * 1, 8, 2, 0, 0, 6, 3, 0, 0, 3, 9, 30, 4);
        due("undo", x.undo(), 3);
        due("ashore again", x.boat(0, 9), 113);
        due("launches", x.count(7), 2);
    }

    private static void move() {
        promise = 9;
        WinterYard x = busyYard();
        comeMany(x, 4, 9, 3, 1);
        due("unknown boat", x.move(4, 0), UNKNOWN);
        due("unknown row", x.move(0, 4), UNKNOWN);
        due("row -1", x.move(0, -1), UNKNOWN);
        due("afloat", x.move(0, 0), NOT_POSSIBLE);
        x.lift(0, 0);
        x.lift(1, 0);
        x.pass(3);
        due("inner", x.move(0, 1), NOT_POSSIBLE);
        due("same row", x.move(1, 0), NOT_POSSIBLE);
        x.setRow(1, 10);
        x.lift(2, 1);
        due("no room", x.move(1, 1), FULL);
        due("other row", x.move(1, 2), 1);
        due("row", x.boat(1, 4), 2);
        due("place", x.boat(1, 5), 0);
        due("ashore still", x.boat(1, 9), 3);
        due("lifted by lift() alone", x.boat(1, 10), 1);
        due("cradle", x.boat(1, 6), 1);
        due("the inner one is free", x.move(0, 2), 2);
        due("lifts", x.count(6), 5);
        due("lifts left", x.count(2), 6);
        x.set(1, 3);
        due("no lift left", x.move(0, 3), FULL);
        due("in this row, ahead of no lift", x.move(0, 2), NOT_POSSIBLE);
        due("undo of set", x.undo(), 3);
        due("undo of move", x.undo(), 2);
        due("row again", x.boat(0, 4), 0);
        movesWhateverTheTide();
    }

    private static void movesWhateverTheTide() {
        WinterYard x = busyYard();
        x.come(9, 40, 25, 0);
        x.lift(0, 0);
        x.pass(7);
        x.set(2, 1);
        x.work(0, 5);
        due("the tide, the crane and the work do not matter", x.move(0, 3), 1);
    }

    private static void mast() {
        promise = 10;
        WinterYard x = busyYard();
        due("unknown", x.mast(0, true), UNKNOWN);
        due("unknown", x.mast(20, false), UNKNOWN);
        comeMany(x, 8, 12, 3, 0);
        comeMany(x, 5, 13, 3, 0);
        due("up already", x.mast(0, true), NONE);
        for (int boat = 0; boat < 6; boat++) {
            due("short", x.mast(boat, false), 0);
        }
        due("off already", x.mast(0, false), NONE);
        due("short, but the rack 0 is full", x.mast(6, false), 1);
        for (int boat = 8; boat < 13; boat++) {
            due("long", x.mast(boat, false), 1);
        }
        due("racks are full", x.mast(7, false), FULL);
        counts("full", x, 0, 51, 9, 13, 0, 0, 0, 0, 6, 6);
        due("up from 0", x.mast(3, true), 0);
        due("up already", x.mast(3, true), NONE);
        due("rack", x.boat(3, 7), NONE);
        due("room in 0", x.mast(7, false), 0);
        due("up from 1", x.mast(12, true), 1);
        due("room in 1", x.mast(3, false), 1);
        due("no room for a long one", x.mast(12, false), FULL);
        x.mast(0, true);
        due("none for it in 0", x.mast(12, false), FULL);
        due("rack", x.boat(1, 7), 0);
        due("rack", x.boat(8, 7), 1);
        x.lift(1, 0);
        due("ashore", x.mast(1, true), NOT_POSSIBLE);
        due("ashore, so already", x.mast(1, false), NOT_POSSIBLE);
        x.launch(1);
        due("afloat again", x.mast(1, true), 0);
        due("undo", x.undo(), 3);
        due("in the rack again", x.boat(1, 7), 0);
    }

    private static void work() {
        promise = 11;
        WinterYard x = busyYard();
        due("unknown", x.work(0, 0), UNKNOWN);
        comeMany(x, 2, 9, 3, 1);
        due("0", x.work(0, 0), BAD_VALUE);
        due("100", x.work(0, 100), BAD_VALUE);
        due("high", x.work(0, HIGH), BAD_VALUE);
        due("1", x.work(0, 1), 1);
        due("98", x.work(0, 98), 99);
        due("one more", x.work(0, 1), FULL);
        due("99", x.work(1, 99), 99);
        due("99 more", x.work(1, 99), FULL);
        x.pass(3);
        due("afloat it does not become less", x.boat(0, 8), 99);
        x.lift(0, 0);
        x.pass(3);
        due("ashore it does", x.boat(0, 8), 96);
        due("not afloat", x.boat(1, 8), 99);
        due("again to 99", x.work(0, 3), 99);
        x.pass(98);
        due("a day is left", x.boat(0, 8), 1);
        due("not done", x.launch(0), REFUSED - 2);
        x.pass(5);
        due("not below 0", x.boat(0, 8), 0);
        due("done", x.count(5), 1);
        x.work(0, 2);
        due("undo", x.undo(), 3);
        due("no work again", x.boat(0, 8), 0);
    }

    private static void pass() {
        promise = 12;
        WinterYard x = new WinterYard();
        due("0", x.pass(0), BAD_VALUE);
        due("100", x.pass(100), BAD_VALUE);
        due("low", x.pass(LOW), BAD_VALUE);
        due("high", x.pass(HIGH), BAD_VALUE);
        x.come(5, 5, 5, 0);
        x.lift(0, 0);
        due("1", x.pass(1), 48);
        due("lifts left", x.count(2), 4);
        due("lifts so far", x.count(6), 1);
        due("99", x.pass(99), 30 + 3 * 5);
        due("day", x.count(0), 100);
        due("ashore for", x.boat(0, 9), 100);
        for (int i = 0; i < 99; i++) {
            x.pass(99);
        }
        due("day", x.count(0), 9901);
        due("beyond", x.pass(99), FULL);
        due("the last day", x.pass(98), 30 + 3 * 4);
        due("day", x.count(0), 9999);
        due("one more", x.pass(1), FULL);
        due("a bad one more", x.pass(100), BAD_VALUE);
        due("undo", x.undo(), 3);
        due("day", x.count(0), 9901);
        due("beyond in a plan", performed(x, ".99"), NOT_POSSIBLE);
        due("stopped", x.stopped(1), FULL);
    }

    private static void type() {
        promise = 13;
        WinterYard x = new WinterYard();
        for (int i = 1; i <= 60; i++) {
            due("length", x.type(i % 3 == 0 ? ';' : i % 3 == 1 ? '.' : '9'), i);
        }
        due("61", x.type('x'), FULL);
        due("length", x.count(14), 60);
        due("no act", x.count(13), 0);
        due("a fault behind the last character", x.perform(), -160);
        x.clearText();
        due("any character", x.type((char) 0), 1);
        due("any character", x.type((char) 65535), 2);
        due("no such plan", x.perform(), -100);
        due("undo leaves the text", x.undo(), NONE);
        due("length", x.count(14), 2);
    }

    private static void clearText() {
        promise = 14;
        WinterYard x = new WinterYard();
        due("empty", x.clearText(), 0);
        write(x, "u0:0");
        due("4", x.clearText(), 4);
        due("length", x.count(14), 0);
        due("no act", x.count(13), 0);
        due("from the start again", x.type('.'), 1);
        due("fault", x.perform(), -101);
    }

    private static void perform() {
        promise = 15;
        WinterYard x = busyYard();
        x.come(11, 20, 5, 0);
        x.come(5, 20, 5, 0);
        write(x, "-0;-0;u0:0;u1:0;.2;m1:3;d0;+0");
        due("eight things", x.perform(), 8);
        counts("performed", x, 2, 45, 7, 2, 1, 0, 4, 1, 0, 0, 3, 9, 30, 4, 29);
        due("stands", x.stands(3, 0), 1);
        due("ashore for", x.boat(1, 9), 2);
        due("lifted", x.boat(0, 10), 1);
        due("mast", x.boat(0, 7), NONE);
        due("nothing stopped", x.stopped(0), NONE);
        due("one act", x.undo(), 3);
        counts("undone", x, 0, 51, 9, 2, 0, 0, 0, 0, 0, 0, 3, 9, 30, 3, 29);
        due("the text stays", x.perform(), 8);
        WinterYard y = new WinterYard();
        y.come(3, 5, 1, 0);
        due("NONE does not stop it", performed(y, "+0;+0"), 2);
        due("it is an act", y.count(13), 2);
        due("fault", performed(y, "+0;+0;"), -106);
        due("no act", y.count(13), 2);
        due("20 things", performed(y, ".1;.1;.1;.1;.1;.1;.1;.1;.1;.1;.1;.1;.1;.1;.1;.1;.1;.1;.1;.1"), 20);
        due("day", y.count(0), 20);
        due("one too early an end", performed(y, ".1;.1;.1;.1;.1;.1;.1;.1;.1;.1;.1;.1;.1;.1;.1;.1;.1;.1;.1;.1;"), -160);
    }

    private static void performRollsBack() {
        promise = 15;
        WinterYard x = busyYard();
        x.come(5, 5, 5, 0);
        x.work(0, 3);
        due("stopped", performed(x, "-0;u0:2;.4;d0;+0;u0:1;.99;work"), -126);
        due("stopped", performed(x, "-0;u0:2;.4;d0;+0;u0:1;.99;d1"), NOT_POSSIBLE);
        due("at", x.stopped(0), 7);
        due("by", x.stopped(1), UNKNOWN);
        counts("as it was", x, 0, 51, 9, 1, 0, 1, 0, 0, 0, 0, 3, 9, 30, 4);
        int[] facts = {5, 5, 5, 0, NONE, NONE, NONE, NONE, 3, 0, 0};
        for (int what = 0; what < facts.length; what++) {
            due("fact " + what, x.boat(0, what), facts[what]);
        }
        due("cradles", x.cradle(0, 1), 0);
        due("the history is as it was", x.undo(), 3);
        due("work is undone", x.boat(0, 8), 0);
        due("come is undone", x.undo(), 2);
        due("no boat", x.count(3), 0);
        due("crane is undone", x.undo(), 1);
        due("crane", x.count(12), 20);
        due("lifts are undone", x.undo(), 0);
        due("lifts", x.count(11), 4);
    }

    private static void plansFaults() {
        promise = 15;
        WinterYard x = new WinterYard();
        Object[][] faults = {
            {"", 0}, {"u", 1}, {"x", 0}, {" ", 0}, {";", 0}, {"5", 0}, {"U0:0", 0},
            {"u20:0", 2}, {"u5", 2}, {"u5:", 3}, {"u5:4", 3}, {"u05:0", 2}, {"u21:0", 2}, {"u19", 3}, {"u190:0", 3},
            {"u1", 2}, {"u10", 3}, {"u:0", 1}, {"u0;0", 2}, {"u0:00", 4}, {"u0:10", 4}, {"u0:11", 4}, {"u0:-1", 3},
            {"m", 1}, {"m30:0", 2}, {"m3:9", 3}, {"m19:3;", 6}, {"m19:3;;", 6}, {"m19:3x", 5},
            {"d", 1}, {"d5;", 3}, {"d00", 2}, {"d20", 2}, {"d29", 2}, {"d5:0", 2}, {"d1;d", 4}, {"d19 ", 3},
            {"-", 1}, {"-5 ", 2}, {"--", 1}, {"-+", 1}, {"-99", 2},
            {"+", 1}, {"+x", 1}, {"+01", 2}, {"+19;+20", 6},
            {".", 1}, {".0", 1}, {".100", 3}, {".01", 1}, {".9;", 3}, {".99;.", 5}, {".1:0", 2}, {".999", 3},
            {"d0\u0661", 2}, {"d\u0661", 1}, {"d", 1}, {"", 0},
        };
        for (Object[] f : faults) {
            due("\"" + f[0] + "\"", performed(x, (String) f[0]), -100 - (Integer) f[1]);
        }
        due("no stop by a fault", x.stopped(0), NONE);
        String[] right = {"u0:0", "u19:3", "u9:1", "u10:2", "m19:0", "m0:3", "d0", "d19", "d8", "-0", "-19", "+0", "+19"};
        for (String text : right) {
            due("\"" + text + "\"", performed(x, text), NOT_POSSIBLE);
            due("\"" + text + "\" stopped", x.stopped(1), UNKNOWN);
        }
        due(".1", performed(x, ".1"), 1);
        due(".9;.10;.99", performed(x, ".9;.10;.99"), 3);
        due("day", x.count(0), 119);
    }

    private static void stopped() {
        promise = 16;
        WinterYard x = new WinterYard();
        due("nothing yet", x.stopped(0), NONE);
        due("nothing yet", x.stopped(1), NONE);
        due("2", x.stopped(2), BAD_VALUE);
        due("-1", x.stopped(-1), BAD_VALUE);
        x.come(12, 5, 5, 0);
        performed(x, ".1;.2;u0:0");
        due("at", x.stopped(0), 2);
        due("by", x.stopped(1), REFUSED - 6);
        performed(x, "u0:");
        due("a fault is no stop", x.stopped(0), 2);
        performed(x, "-0;u0:0");
        due("nor is what went well", x.stopped(1), REFUSED - 6);
        x.undo();
        due("undo leaves it", x.stopped(0), 2);
        performed(x, "d0");
        due("at", x.stopped(0), 0);
        due("by", x.stopped(1), REFUSED - 1);
        performed(x, "m0:1");
        due("by", x.stopped(1), NOT_POSSIBLE);
        due("2", x.stopped(2), BAD_VALUE);
        due("high", x.stopped(HIGH), BAD_VALUE);
    }

    private static void undo() {
        promise = 17;
        WinterYard x = new WinterYard();
        due("empty", x.undo(), NONE);
        for (int i = 0; i < 6; i++) {
            x.come(5, 5, 5, 0);
        }
        due("at most 4", x.count(13), 4);
        for (int left = 3; left >= 0; left--) {
            due("left", x.undo(), left);
            due("boats", x.count(3), left + 2);
            due("states", x.count(13), left);
        }
        due("no more", x.undo(), NONE);
        due("boats", x.count(3), 2);
        x.come(5, 5, 5, 0);
        due("again", x.undo(), 0);
        everyActIsUndone();
    }

    private static void everyActIsUndone() {
        WinterYard x = busyYard();
        x.come(5, 5, 5, 0);
        x.pass(2);
        due("lift", x.lift(0, 1), 1);
        due("work", x.work(0, 4), 4);
        due("pass", x.pass(5), 30);
        due("move", x.move(0, 2), 1);
        due("undo of move", x.undo(), 3);
        due("row", x.boat(0, 4), 1);
        due("undo of pass", x.undo(), 2);
        counts("undone", x, 2, 45, 8, 1, 1, 1, 1, 0);
        due("undo of work", x.undo(), 1);
        due("work", x.boat(0, 8), 0);
        due("undo of lift", x.undo(), 0);
        due("row", x.row(1, 2), 0);
        due("metres", x.row(1, 1), 0);
        due("cradles", x.cradle(0, 1), 0);
    }

    private static void keep() {
        promise = 18;
        WinterYard x = new WinterYard();
        due("none", x.keep(), 0);
        x.come(5, 5, 5, 0);
        x.come(5, 5, 5, 0);
        due("in place of the one that was", x.keep(), 2);
        due("no act", x.count(13), 2);
        x.come(5, 5, 5, 0);
        due("two", x.restore(), 2);
        due("undo leaves the snapshot", x.undo(), 3);
        due("three", x.count(3), 3);
        x.undo();
        x.undo();
        due("two", x.restore(), 2);
    }

    private static void restore() {
        promise = 19;
        WinterYard x = busyYard();
        due("no snapshot", x.restore(), NONE);
        due("no act", x.count(13), 2);
        x.come(12, 5, 5, 0);
        x.mast(0, false);
        x.lift(0, 3);
        x.setRow(1, 20);
        x.setCradles(2, 7);
        x.work(0, 20);
        x.pass(10);
        x.keep();
        write(x, "u0:");
        x.pass(80);
        x.launch(0);
        x.mast(0, true);
        x.goAway(0);
        x.setRow(1, 30);
        x.set(0, 9);
        x.setCradles(2, 1);
        due("restore", x.restore(), 1);
        counts("restored", x, 10, 39, 9, 1, 1, 1, 1, 0, 1, 0, 3, 9, 30, 4, 3);
        int[] facts = {12, 5, 5, 0, 3, 0, 0, 0, 10, 10, 1};
        for (int what = 0; what < facts.length; what++) {
            due("fact " + what, x.boat(0, what), facts[what]);
        }
        due("row", x.row(1, 0), 20);
        due("cradles", x.cradle(2, 0), 7);
        due("undo", x.undo(), 3);
        due("before restore", x.row(1, 0), 30);
        due("boats", x.count(3), 0);
        due("the snapshot stays", x.restore(), 1);
        x.pass(1);
        due("and is no part of the state", x.restore(), 1);
        due("day", x.count(0), 10);
    }

    private static void boat() {
        promise = 20;
        WinterYard x = busyYard();
        x.come(13, 17, 11, 2);
        x.come(4, 5, 1, 1);
        x.mast(0, false);
        x.lift(1, 2);
        x.work(0, 50);
        x.lift(0, 2);
        x.pass(14);
        int[] facts = {13, 17, 11, 2, 2, 1, 2, 1, 36, 14, 1};
        for (int what = 0; what < facts.length; what++) {
            due("fact " + what, x.boat(0, what), facts[what]);
        }
        due("innermost", x.boat(1, 5), 0);
        due("has its mast", x.boat(1, 7), NONE);
        due("11", x.boat(0, 11), BAD_VALUE);
        due("-1", x.boat(0, -1), BAD_VALUE);
        due("high", x.boat(0, HIGH), BAD_VALUE);
        due("unknown", x.boat(2, 11), UNKNOWN);
        due("unknown", x.boat(-1, 0), UNKNOWN);
        due("unknown", x.boat(20, 0), UNKNOWN);
        due("unknown", x.boat(HIGH, 0), UNKNOWN);
        due("unknown", x.boat(LOW, 0), UNKNOWN);
        x.move(0, 1);
        due("lifted by lift() alone", x.boat(0, 10), 1);
        due("place", x.boat(0, 5), 0);
    }

    private static void row() {
        promise = 21;
        WinterYard x = busyYard();
        comeMany(x, 3, 8, 3, 1);
        x.lift(2, 1);
        x.lift(0, 1);
        x.setRow(1, 33);
        int[] told = {33, 18, 2, 0};
        for (int what = 0; what < told.length; what++) {
            due("what " + what, x.row(1, what), told[what]);
        }
        due("none", x.row(0, 3), NONE);
        due("4", x.row(1, 4), BAD_VALUE);
        due("-1", x.row(1, -1), BAD_VALUE);
        due("row 4", x.row(4, 4), UNKNOWN);
        due("row -1", x.row(-1, 0), UNKNOWN);
        due("row high", x.row(HIGH, 0), UNKNOWN);
        x.launch(0);
        due("farthest out", x.row(1, 3), 2);
        due("taken", x.row(1, 1), 9);
        comeMany(x, 17, 6, 3, 1);
        x.lift(19, 3);
        int[] last = {40, 7, 1, 19};
        for (int what = 0; what < last.length; what++) {
            due("the last boat, what " + what, x.row(3, what), last[what]);
        }
    }

    private static void stands() {
        promise = 22;
        WinterYard x = busyYard();
        comeMany(x, 4, 8, 3, 1);
        x.lift(3, 2);
        x.lift(1, 2);
        x.lift(0, 2);
        due("innermost", x.stands(2, 0), 3);
        due("next", x.stands(2, 1), 1);
        due("outermost", x.stands(2, 2), 0);
        due("not so many", x.stands(2, 3), NONE);
        due("high", x.stands(2, HIGH), NONE);
        due("an empty row", x.stands(0, 0), NONE);
        due("negative", x.stands(2, -1), BAD_VALUE);
        due("as NONE", x.stands(2, NONE), BAD_VALUE);
        due("low", x.stands(2, LOW), BAD_VALUE);
        due("row 4", x.stands(4, -1), UNKNOWN);
        due("row -1", x.stands(-1, 0), UNKNOWN);
        due("row as NONE", x.stands(NONE, 0), UNKNOWN);
        WinterYard y = busyYard();
        y.setRow(0, 60);
        for (int kind = 0; kind < 3; kind++) {
            y.setCradles(kind, 9);
        }
        for (int boat = 0; boat < 16; boat++) {
            y.come(3, 5, 1, boat % 3);
        }
        for (int boat = 0; boat < 15; boat++) {
            if (boat == 9) {
                y.pass(14);
            }
            due("15 in a row", y.lift(boat, 0), boat + 1);
        }
        due("the last", y.stands(0, 14), 14);
        due("no room", y.liftReason(15, 0), 5);
    }

    private static void cradle() {
        promise = 23;
        WinterYard x = busyYard();
        int[] bears = {30, 12, 20};
        for (int kind = 0; kind < 3; kind++) {
            due("cradles", x.cradle(kind, 0), 4);
            due("taken", x.cradle(kind, 1), 0);
            due("bears", x.cradle(kind, 2), bears[kind]);
            due("3", x.cradle(kind, 3), BAD_VALUE);
            due("-1", x.cradle(kind, -1), BAD_VALUE);
        }
        due("kind 3", x.cradle(3, 3), UNKNOWN);
        due("kind -1", x.cradle(-1, 0), UNKNOWN);
        due("kind high", x.cradle(HIGH, 0), UNKNOWN);
        x.setCradles(2, 1);
        comeMany(x, 3, 5, 5, 2);
        x.lift(0, 0);
        x.lift(1, 0);
        x.lift(2, 0);
        due("taken", x.cradle(0, 1), 2);
        due("taken", x.cradle(1, 1), 0);
        due("taken", x.cradle(2, 1), 1);
        x.move(2, 1);
        due("moved with it", x.cradle(0, 1), 2);
        x.launch(2);
        due("free again", x.cradle(0, 1), 1);
    }

    private static void tide() {
        promise = 24;
        WinterYard x = new WinterYard();
        int[] first = {51, 48, 45, 42, 39, 36, 33, 30, 33, 36, 39, 42, 45, 48, 51, 48};
        for (int day = 0; day < first.length; day++) {
            due("day " + day, x.tide(day), first[day]);
        }
        due("21", x.tide(21), 30);
        due("35", x.tide(35), 30);
        due("9999", x.tide(9999), 42);
        due("10000", x.tide(10000), BAD_VALUE);
        due("-1", x.tide(-1), BAD_VALUE);
        due("low", x.tide(LOW), BAD_VALUE);
        due("high", x.tide(HIGH), BAD_VALUE);
        x.set(0, 9);
        due("9 times", x.tide(14), 93);
        x.set(0, 0);
        due("0 times", x.tide(14), 30);
    }

    private static void liftReason() {
        promise = 25;
        WinterYard x = new WinterYard();
        x.come(20, 40, 30, 1);
        due("unknown boat", x.liftReason(1, 0), UNKNOWN);
        due("unknown row", x.liftReason(0, 4), UNKNOWN);
        due("row -1", x.liftReason(0, -1), UNKNOWN);
        x.setRow(0, 20);
        for (int boat = 1; boat < 5; boat++) {
            x.come(3, 5, 1, 0);
            x.lift(boat, 1);
        }
        due("ashore", x.liftReason(1, 0), 1);
        x.set(0, 1);
        due("the tide", x.liftReason(0, 0), 2);
        x.set(0, 2);
        due("the crane", x.liftReason(0, 0), 3);
        x.set(2, 30);
        due("the cradle", x.liftReason(0, 0), 4);
        x.goAway(0);
        x.come(20, 40, 12, 1);
        due("the row", x.liftReason(0, 0), 5);
        x.setRow(0, 21);
        due("the mast", x.liftReason(0, 0), 6);
        x.mast(0, false);
        due("the lifts", x.liftReason(0, 0), 7);
        due("another row", x.liftReason(0, 1), 7);
        x.set(1, 5);
        due("nothing", x.liftReason(0, 0), 0);
        x.set(2, 12);
        due("a crane that just bears it", x.liftReason(0, 0), 0);
        x.set(2, 11);
        due("one that does not", x.liftReason(0, 0), 3);
        due("told only", x.boat(0, 4), NONE);
        edgesOfMastAndTide();
    }

    private static void edgesOfMastAndTide() {
        WinterYard x = new WinterYard();
        x.come(9, 30, 5, 0);
        x.come(10, 30, 5, 0);
        x.come(9, 31, 5, 0);
        x.pass(7);
        due("9 metres with the mast, just the tide", x.liftReason(0, 0), 0);
        due("10 metres", x.liftReason(1, 0), 6);
        due("below the tide", x.liftReason(2, 0), 2);
        x.come(5, 5, 1, 0);
        x.lift(0, 0);
        x.launch(0);
        x.lift(0, 0);
        x.launch(0);
        due("launches take lifts, too", x.liftReason(0, 0), 7);
        x.set(1, 1);
        due("fewer than were done", x.count(2), 0);
        due("no lift", x.liftReason(0, 0), 7);
        x.pass(1);
        due("on the next day", x.liftReason(0, 0), 0);
        due("one lift", x.count(2), 1);
    }

    private static void launchReason() {
        promise = 26;
        WinterYard x = new WinterYard();
        due("unknown", x.launchReason(0), UNKNOWN);
        due("low", x.launchReason(LOW), UNKNOWN);
        x.come(9, 40, 18, 0);
        x.come(3, 5, 1, 0);
        due("afloat", x.launchReason(0), 1);
        x.work(0, 1);
        due("afloat, with work", x.launchReason(0), 1);
        x.lift(0, 0);
        x.lift(1, 0);
        x.set(1, 1);
        x.set(2, 17);
        x.set(0, 1);
        due("the work", x.launchReason(0), 2);
        x.set(0, 3);
        x.pass(1);
        x.set(0, 0);
        x.move(1, 1);
        x.set(1, 2);
        x.move(1, 0);
        x.set(1, 1);
        due("another boat", x.launchReason(0), 3);
        x.set(1, 3);
        x.move(1, 2);
        x.set(1, 1);
        due("the tide", x.launchReason(0), 4);
        x.set(0, 2);
        due("the crane", x.launchReason(0), 5);
        x.set(2, 18);
        due("the lifts", x.launchReason(0), 6);
        due("refused", x.launch(0), REFUSED - 6);
        x.set(1, 4);
        due("nothing", x.launchReason(0), 0);
        x.set(0, 1);
        due("a tide of 36", x.launchReason(0), 4);
        x.set(0, 2);
        due("launched", x.launch(0), 1);
    }

    private static void blockers() {
        promise = 27;
        WinterYard x = busyYard();
        comeMany(x, 4, 8, 3, 1);
        due("unknown", x.blockers(4), UNKNOWN);
        due("negative", x.blockers(-1), UNKNOWN);
        due("afloat", x.blockers(0), NONE);
        x.lift(3, 2);
        x.lift(0, 2);
        x.lift(1, 2);
        x.lift(2, 1);
        due("innermost", x.blockers(3), 2);
        due("between", x.blockers(0), 1);
        due("outermost", x.blockers(1), 0);
        due("alone", x.blockers(2), 0);
        x.launch(1);
        due("one less", x.blockers(3), 1);
    }

    private static void launchDay() {
        promise = 28;
        WinterYard x = busyYard();
        x.come(5, 45 - 5, 5, 0);
        due("unknown", x.launchDay(1), UNKNOWN);
        due("negative", x.launchDay(-1), UNKNOWN);
        due("afloat", x.launchDay(0), NONE);
        x.lift(0, 0);
        due("now", x.launchDay(0), 0);
        x.come(3, 5, 1, 1);
        x.lift(1, 0);
        due("boats farther out do not matter", x.launchDay(0), 0);
        x.work(0, 3);
        due("after the work", x.launchDay(0), 3);
        x.work(0, 1);
        due("after the low tide", x.launchDay(0), 11);
        x.work(0, 95);
        due("99 days", x.launchDay(0), 99);
        x.pass(4);
        due("95 of them", x.launchDay(0), 99);
        due("no work", x.launchDay(1), 4);
        x.set(1, 2);
        x.lift(1, 1);
        x.move(1, 1);
        x.move(1, 0);
        due("lifts are left tomorrow", x.launchDay(1), 5);
        x.set(1, 3);
        due("one is left today", x.launchDay(1), 4);
        x.set(2, 4);
        due("too heavy", x.launchDay(0), NONE);
        x.set(2, 5);
        due("just not", x.launchDay(0), 99);
        x.set(0, 1);
        due("never so deep", x.launchDay(0), NONE);
        x.set(0, 2);
        due("deep enough", x.launchDay(0), 99);
    }

    private static void bestRow() {
        promise = 29;
        WinterYard x = busyYard();
        due("unknown", x.bestRow(0), UNKNOWN);
        due("high", x.bestRow(HIGH), UNKNOWN);
        comeMany(x, 2, 9, 3, 1);
        x.come(12, 5, 3, 1);
        due("the lowest", x.bestRow(0), 0);
        x.setRow(2, 20);
        due("the fewest metres", x.bestRow(0), 2);
        x.lift(1, 2);
        due("just room", x.bestRow(0), 2);
        due("no room for a longer one", x.bestRow(2), 0);
        due("not its own", x.bestRow(1), 0);
        x.setRow(3, 11);
        due("metres left, not metres", x.bestRow(0), 2);
        due("wherever it is", x.bestRow(1), 3);
        x.setRow(0, 11);
        due("the lower of two", x.bestRow(1), 0);
        x.setRow(1, 12);
        due("none", x.bestRow(2), NONE);
        x.setRow(1, 13);
        due("one", x.bestRow(2), 1);
    }

    private static void count() {
        promise = 30;
        WinterYard x = new WinterYard();
        x.set(0, 2);
        x.set(1, 8);
        x.set(2, 25);
        comeMany(x, 3, 12, 3, 0);
        comeMany(x, 2, 13, 3, 2);
        x.pass(14);
        for (int boat = 1; boat < 5; boat++) {
            x.mast(boat, false);
        }
        x.lift(1, 0);
        x.lift(3, 1);
        x.move(3, 2);
        x.launch(1);
        x.work(0, 5);
        x.work(3, 6);
        x.work(4, 1);
        write(x, "hello");
        counts("told", x, 14, 44, 4, 5, 1, 3, 4, 1, 2, 2, 2, 8, 25, 4, 5);
        due("15", x.count(15), BAD_VALUE);
        due("-1", x.count(-1), BAD_VALUE);
        due("low", x.count(LOW), BAD_VALUE);
        due("high", x.count(HIGH), BAD_VALUE);
    }

    private static void errorsChangeNothing() {
        WinterYard x = busyYard();
        x.come(12, 5, 3, 0);
        x.come(5, 5, 3, 0);
        x.lift(1, 0);
        x.launch(0);
        x.launch(9);
        x.lift(0, 0);
        x.move(0, 0);
        x.goAway(1);
        x.mast(1, false);
        x.mast(0, true);
        x.work(0, 100);
        x.pass(0);
        x.set(1, 0);
        x.setRow(0, 9);
        x.setCradles(0, 4);
        x.come(1, 1, 1, 1);
        x.restore();
        x.perform();
        counts("after errors", x, 0, 51, 8, 2, 1, 0, 1, 0, 0, 0, 3, 9, 30, 4, 0);
        due("undo of the lift", x.undo(), 3);
        due("afloat", x.boat(1, 4), NONE);
        due("undo of the coming", x.undo(), 2);
        due("gone", x.boat(1, 0), UNKNOWN);
    }
}
