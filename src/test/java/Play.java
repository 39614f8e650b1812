import java.util.ArrayList;
import java.util.List;
import java.util.function.Consumer;
import java.util.function.ToIntFunction;

/** What the tests share: the constants, yards that are set up, texts, and all that a yard tells. */
class Play {
    static final int UNKNOWN = -1;
    static final int BAD_VALUE = -2;
    static final int FULL = -3;
    static final int NOT_POSSIBLE = -4;
    static final int NONE = -5;
    static final int REFUSED = -10;

    static final int LOW = Integer.MIN_VALUE;
    static final int HIGH = Integer.MAX_VALUE;

    static final int LONG = 0;
    static final int FIN = 1;
    static final int BILGE = 2;

    /** A yard with many lifts and a strong crane, so that neither is in the way. */
    static WinterYard busyYard() {
        WinterYard x = new WinterYard();
        makeBusy(x);
        return x;
    }

    static void makeBusy(WinterYard x) {
        x.set(1, 9);
        x.set(2, 30);
    }

    static void comeMany(WinterYard x, int many, int length, int weight, int keel) {
        for (int i = 0; i < many; i++) {
            x.come(length, 5, weight, keel);
        }
    }

    static void passDays(WinterYard x, int days) {
        for (int left = days; left > 0; left -= 99) {
            x.pass(Math.min(left, 99));
        }
    }

    static void write(WinterYard x, String text) {
        x.clearText();
        for (int i = 0; i < text.length(); i++) {
            x.type(text.charAt(i));
        }
    }

    static int performed(WinterYard x, String text) {
        write(x, text);
        return x.perform();
    }

    static String times(int many, String piece, String between) {
        StringBuilder text = new StringBuilder();
        for (int i = 0; i < many; i++) {
            text.append(i == 0 ? "" : between).append(piece);
        }
        return text.toString();
    }

    /** A yard in which nothing is as at first: boats afloat and ashore, masts, work, a text, a stop, a snapshot. */
    static void bringToLife(WinterYard x) {
        x.come(9, 35, 12, FIN);
        x.come(12, 30, 10, LONG);
        x.come(6, 20, 5, BILGE);
        x.come(14, 10, 8, FIN);
        x.come(5, 12, 3, LONG);
        x.set(1, 7);
        x.set(2, 25);
        x.mast(1, false);
        x.mast(3, false);
        x.lift(1, 2);
        x.lift(2, 2);
        x.setRow(3, 55);
        x.setCradles(BILGE, 6);
        x.pass(5);
        x.work(0, 7);
        x.keep();
        x.work(2, 9);
        x.pass(3);
        x.lift(4, 1);
        performed(x, "+3;.2;d1");
        write(x, "+3;.2;m2:0");
    }

    /** What tells the state: everything but the text, the history, the snapshot and the latest stop. */
    static String state(WinterYard x) {
        StringBuilder told = new StringBuilder("counts");
        for (int what = 0; what <= 12; what++) {
            told.append(' ').append(x.count(what));
        }
        for (int row = 0; row < 4; row++) {
            told.append(" row ").append(row);
            for (int what = 0; what < 4; what++) {
                told.append(' ').append(x.row(row, what));
            }
        }
        for (int kind = 0; kind < 3; kind++) {
            told.append(" cradles ").append(x.cradle(kind, 0)).append(' ').append(x.cradle(kind, 1));
        }
        for (int boat = 0; boat < 20; boat++) {
            told.append(boatTold(x, boat));
        }
        return told.toString();
    }

    private static String boatTold(WinterYard x, int boat) {
        StringBuilder told = new StringBuilder(" boat " + boat + ": " + x.boat(boat, 0));
        if (x.boat(boat, 0) == UNKNOWN) {
            return told.toString();
        }
        for (int what = 1; what <= 10; what++) {
            told.append(' ').append(x.boat(boat, what));
        }
        told.append(" out ").append(x.blockers(boat)).append(' ').append(x.launchReason(boat));
        told.append(' ').append(x.launchDay(boat)).append(' ').append(x.bestRow(boat));
        for (int row = 0; row < 4; row++) {
            told.append(' ').append(x.liftReason(boat, row));
        }
        return told.toString();
    }

    private static String stateAndCounts(WinterYard x) {
        return state(x) + " history " + x.count(13) + " text " + x.count(14);
    }

    /**
     * What a yard is like after some calls, seen from every side, but for the latest
     * stop: as it is, after each number of undos, after restore, and what its text does.
     * Each view takes a new yard, as the views themselves make calls.
     */
    static List<String> views(Consumer<WinterYard> calls) {
        List<String> views = new ArrayList<>();
        for (int undos = 0; undos <= 5; undos++) {
            WinterYard x = new WinterYard();
            calls.accept(x);
            StringBuilder told = new StringBuilder("undos");
            for (int i = 0; i < undos; i++) {
                told.append(' ').append(x.undo());
            }
            views.add(told + " " + stateAndCounts(x));
        }
        WinterYard x = new WinterYard();
        calls.accept(x);
        views.add("restore " + x.restore() + " " + stateAndCounts(x));
        WinterYard y = new WinterYard();
        calls.accept(y);
        views.add("perform " + y.perform() + " " + stateAndCounts(y));
        return views;
    }

    /** A call that is refused answers as is due, and after it nothing has changed. */
    static void refused(Check check, String what, Consumer<WinterYard> before, int due, ToIntFunction<WinterYard> call) {
        List<String> want = views(before);
        List<String> got = views(x -> {
            before.accept(x);
            check.due(what, call.applyAsInt(x), due);
        });
        for (int view = 0; view < want.size(); view++) {
            String differs = " changes something: " + want.get(view) + " / " + got.get(view);
            check.holds(what + differs, want.get(view).equals(got.get(view)));
        }
        WinterYard x = new WinterYard();
        before.accept(x);
        int number = x.stopped(0);
        int error = x.stopped(1);
        call.applyAsInt(x);
        // perform() alone may tell of another stop; it has tests of its own.
        if (due != NOT_POSSIBLE || !what.startsWith("perform")) {
            check.due(what + ", the number of the stop", x.stopped(0), number);
            check.due(what + ", the error of the stop", x.stopped(1), error);
        }
    }

    /** An act answers as is due, and records the state that was before it, and no more. */
    static void act(Check check, String what, Consumer<WinterYard> before, int due, ToIntFunction<WinterYard> call) {
        WinterYard was = new WinterYard();
        before.accept(was);
        int states = was.count(13);
        int length = was.count(14);
        String want = state(was);
        WinterYard x = new WinterYard();
        before.accept(x);
        check.due(what, call.applyAsInt(x), due);
        int recorded = Math.min(4, states + 1);
        check.due(what + ", states", x.count(13), recorded);
        check.due(what + ", the text stays", x.count(14), length);
        check.due(what + ", undo", x.undo(), recorded - 1);
        String got = state(x);
        check.holds(what + " is not undone: " + want + " / " + got, want.equals(got));
    }
}
