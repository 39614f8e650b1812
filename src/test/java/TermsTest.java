import java.io.IOException;
import java.nio.file.Files;
import java.nio.file.Path;

/**
 * The "Terms" of DOC.md, head by head and sentence by sentence: each sentence is quoted, and
 * what follows the quotation would fail if it did not hold. All quotations together are the
 * whole of the "Terms", so that none is left out.
 */
public final class TermsTest extends Play {
    private static final Check check = new Check("TermsTest");
    private static final StringBuilder quoted = new StringBuilder();
    private static String sentence = "";

    public static void main(String[] args) throws IOException {
        daysAndTides();
        boats();
        cradles();
        rows();
        lifting();
        launching();
        moving();
        masts();
        work();
        texts();
        faults();
        history();
        errors();
        constants();
        heads();
        nothingIsLeftOut();
        check.end();
    }

    private static void quote(String words) {
        sentence = words;
        quoted.append(words).append(' ');
    }

    private static void due(String what, long got, long want) {
        check.due("\"" + sentence + "\" " + what, got, want);
    }

    private static void nothingIsLeftOut() throws IOException {
        String document = Files.readString(Path.of("../shared/DOC.md"));
        int start = document.indexOf("\n## Terms\n");
        int end = document.indexOf("\n## Promise 1:");
        check.holds("the document has Terms", start >= 0 && end > start);
        if (start >= 0 && end > start) {
            String terms = document.substring(start + "\n## Terms\n".length(), end);
            String words = terms.replaceAll("\\s+", " ").trim();
            check.holds("what is quoted is \"" + words + "\"", words.equals(quoted.toString().trim()));
        }
    }

    private static void daysAndTides() {
        quote("DAYS, TIDES");
        quote("The day is a number, 0 at first.");
        due("at first", new WinterYard().count(0), 0);

        quote("The tide of the day d, in tenths of a metre, is 30, and the setting 0 (0 to 9; 3 at first) times the "
            + "distance of (d modulo 14) from 7, together (so it is lowest on the days 7, 21, 35 and so on).");
        WinterYard x = new WinterYard();
        due("at first", x.count(10), 3);
        due("-1", x.set(0, -1), BAD_VALUE);
        due("10", x.set(0, 10), BAD_VALUE);
        int before = 3;
        for (int step : new int[] {9, 0, 1, 2, 3, 4, 5, 6, 7, 8}) {
            due("the setting " + step, x.set(0, step), before);
            before = step;
            for (int day = 0; day < 36; day++) {
                int distance = day % 14 < 7 ? 7 - day % 14 : day % 14 - 7;
                due("the day " + day + " with " + step, x.tide(day), 30 + step * distance);
            }
        }
        for (int day : new int[] {7, 21, 35}) {
            due("the lowest, on the day " + day, x.tide(day), 30);
        }
        WinterYard y = new WinterYard();
        for (int day = 1; day < 40; day++) {
            due("passing to the day " + day, y.pass(1), y.tide(day));
            due("the tide of the day " + day, y.count(1), y.tide(day));
        }

        quote("The crane can do as many lifts in a day as the setting 1 tells (1 to 9; 4 at first); left today are as "
            + "many, less those done on this day (0 at least).");
        WinterYard z = new WinterYard();
        due("at first", z.count(11), 4);
        due("0", z.set(1, 0), BAD_VALUE);
        due("10", z.set(1, 10), BAD_VALUE);
        comeMany(z, 10, 3, 1, LONG);
        z.set(1, 3);
        due("as many", z.count(2), 3);
        z.lift(0, 0);
        due("less one", z.count(2), 2);
        z.move(0, 1);
        due("less two", z.count(2), 1);
        z.launch(0);
        due("none is left", z.count(2), 0);
        due("one more", z.lift(1, 0), REFUSED - 7);
        z.set(1, 1);
        due("0 at least", z.count(2), 0);
        z.set(1, 9);
        due("6 of 9", z.count(2), 6);
        z.pass(1);
        due("on the next day", z.count(2), 9);
    }

    private static void boats() {
        quote("BOATS");
        quote("There are at most 20 boats, 0 to 19; a new one gets the lowest number that none has.");
        WinterYard x = new WinterYard();
        for (int boat = 0; boat < 20; boat++) {
            due("the next", x.come(3, 5, 1, FIN), boat);
        }
        due("the 21st", x.come(3, 5, 1, FIN), FULL);
        due("20", x.boat(20, 0), UNKNOWN);
        x.goAway(13);
        x.goAway(4);
        x.goAway(19);
        due("the lowest", x.come(3, 5, 1, FIN), 4);
        due("the next", x.come(3, 5, 1, FIN), 13);
        due("the last", x.come(3, 5, 1, FIN), 19);

        quote("A boat has a length (3 to 20 metres), a draft (5 to 40, in tenths of a metre), a weight (1 to 30 tons), "
            + "and a keel: 0 a long one, 1 a fin, 2 two bilge keels.");
        int[][] right = {{3, 5, 1, 0}, {20, 5, 1, 1}, {3, 40, 1, 2}, {3, 5, 30, 0}, {20, 40, 30, 2}};
        WinterYard y = new WinterYard();
        for (int boat = 0; boat < right.length; boat++) {
            int[] b = right[boat];
            due("boat " + boat, y.come(b[0], b[1], b[2], b[3]), boat);
            for (int what = 0; what < 4; what++) {
                due("fact " + what, y.boat(boat, what), b[what]);
            }
        }
        int[][] wrong = {{2, 5, 1, 0}, {21, 5, 1, 0}, {3, 4, 1, 0}, {3, 41, 1, 0}, {3, 5, 0, 0}, {3, 5, 31, 0}};
        for (int[] b : wrong) {
            due(b[0] + " " + b[1] + " " + b[2], y.come(b[0], b[1], b[2], b[3]), BAD_VALUE);
        }
        due("keel 3", y.come(3, 5, 1, 3), UNKNOWN);
        due("keel -1", y.come(3, 5, 1, -1), UNKNOWN);

        quote("It is afloat at first, and has its mast.");
        for (int what = 4; what <= 7; what++) {
            due("fact " + what, y.boat(2, what), NONE);
        }
        due("afloat", y.launchReason(2), 1);
        due("has its mast", y.mast(2, true), NONE);
        due("ashore are", y.count(4), 0);
        due("masts", y.count(8) + y.count(9), 0);
    }

    private static void cradles() {
        quote("A cradle is of a kind, too: a cradle for long keels bears up to 30 tons; one for fins bears up to 12; "
            + "one for bilge keels up to 20.");
        int[] bears = {30, 12, 20};
        WinterYard x = busyYard();
        for (int kind = 0; kind < 3; kind++) {
            due("kind " + kind, x.cradle(kind, 2), bears[kind]);
        }

        quote("A boat is put into a cradle of its keel's kind, if one is free and bears it.");
        for (int keel = 0; keel < 3; keel++) {
            due("just borne", x.come(3, 5, bears[keel], keel), keel);
            due("lifted", x.lift(keel, keel), 1);
            due("its kind", x.boat(keel, 6), keel);
            due("taken", x.cradle(keel, 1), 1);
        }
        x.come(3, 5, 13, FIN);
        due("13 tons on a fin", x.liftReason(3, 3), 4);
        x.come(3, 5, 1, LONG);
        due("a light one", x.lift(4, 3), 1);
        due("in its own kind", x.boat(4, 6), LONG);

        quote("Otherwise a boat with bilge keels is put into one for long keels, and one with a long keel into one for "
            + "bilge keels, if one is free and the weight is at most the half of what it bears.");
        lentCradle(BILGE, LONG, 15);
        lentCradle(LONG, BILGE, 10);
        WinterYard y = busyYard();
        y.come(3, 5, 21, BILGE);
        due("too heavy for its own, and more than the half of 30", y.liftReason(0, 0), 4);
        y.come(3, 5, 1, FIN);
        y.setCradles(FIN, 0);
        due("a fin fits no other", y.liftReason(1, 0), 4);
        noneIsFree(BILGE, LONG);
        noneIsFree(LONG, BILGE);

        quote("Of each kind there are some cradles (0 to 9; 4 of each at first).");
        for (int kind = 0; kind < 3; kind++) {
            WinterYard z = busyYard();
            due("at first", z.cradle(kind, 0), 4);
            due("-1", z.setCradles(kind, -1), BAD_VALUE);
            due("10", z.setCradles(kind, 10), BAD_VALUE);
            due("9", z.setCradles(kind, 9), 4);
            due("0", z.setCradles(kind, 0), 9);
            z.setCradles(kind, 1);
            z.setCradles((kind + 1) % 3, 0);
            z.setCradles((kind + 2) % 3, 0);
            comeMany(z, 2, 3, 1, kind);
            due("one", z.lift(0, 0), 1);
            due("is free no more", z.liftReason(1, 0), 4);
        }
    }

    private static void lentCradle(int keel, int kind, int half) {
        WinterYard x = busyYard();
        x.setCradles(keel, 0);
        x.come(3, 5, half, keel);
        x.come(3, 5, half + 1, keel);
        due("more than the half", x.liftReason(1, 0), 4);
        due("the half", x.lift(0, 0), 1);
        due("the other kind", x.boat(0, 6), kind);
        due("is taken", x.cradle(kind, 1), 1);
        due("its own is not", x.cradle(keel, 1), 0);
    }

    private static void noneIsFree(int keel, int kind) {
        WinterYard x = busyYard();
        x.setCradles(keel, 0);
        x.setCradles(kind, 0);
        x.come(3, 5, 1, keel);
        due("none is free", x.liftReason(0, 0), 4);
        x.setCradles(kind, 1);
        due("one is free", x.liftReason(0, 0), 0);
    }

    private static void rows() {
        quote("ROWS");
        quote("There are 4 rows, 0 to 3, each with as many metres as are set (10 to 60; 40 at first).");
        WinterYard x = busyYard();
        for (int row = 0; row < 4; row++) {
            due("at first", x.row(row, 0), 40);
            due("9", x.setRow(row, 9), BAD_VALUE);
            due("61", x.setRow(row, 61), BAD_VALUE);
            due("10", x.setRow(row, 10), 40);
            due("60", x.setRow(row, 60), 10);
            due("as set", x.row(row, 0), 60);
        }
        due("row 4", x.setRow(4, 20), UNKNOWN);
        due("row -1", x.setRow(-1, 20), UNKNOWN);

        quote("A boat that is lifted into a row stands at its outer end, and takes its length and 1 metre more.");
        x.come(7, 5, 1, LONG);
        x.come(9, 5, 1, FIN);
        x.come(4, 5, 1, BILGE);
        int taken = 0;
        int[] lengths = {7, 9, 4};
        for (int boat : new int[] {1, 2, 0}) {
            x.lift(boat, 3);
            taken += lengths[boat] + 1;
            due("the boat farthest out", x.row(3, 3), boat);
            due("metres", x.row(3, 1), taken);
        }
        x.setRow(2, 10);
        x.come(9, 5, 1, LONG);
        x.come(10, 5, 1, LONG);
        x.mast(4, false);
        due("10 metres and one", x.liftReason(4, 2), 5);
        due("9 metres and one", x.lift(3, 2), 1);

        quote("A boat can be taken out of a row only if no boat stands farther out.");
        due("innermost, launched", x.launch(1), REFUSED - 3);
        due("innermost, moved", x.move(1, 1), NOT_POSSIBLE);
        due("between, launched", x.launch(2), REFUSED - 3);
        due("between, moved", x.move(2, 1), NOT_POSSIBLE);
        due("outermost, launched", x.launch(0), 0);
        due("then outermost, moved", x.move(2, 1), 1);
        due("then alone, launched", x.launch(1), 0);

        quote("(The outermost one is told last.)");
        WinterYard y = busyYard();
        comeMany(y, 3, 5, 1, LONG);
        y.lift(2, 1);
        y.lift(0, 1);
        y.lift(1, 1);
        int[] told = {2, 0, 1, NONE};
        for (int rank = 0; rank < told.length; rank++) {
            due("rank " + rank, y.stands(1, rank), told[rank]);
        }
        due("the place of the outermost", y.boat(1, 5), 2);
        due("the outermost", y.row(1, 3), 1);
    }

    private static void lifting() {
        quote("LIFTING, LAUNCHING");
        quote("A lift into a row needs: the boat is afloat; the tide is at least its draft; the weight is at most what "
            + "the crane bears (the setting 2: 1 to 30; 20 at first); there is a cradle for it; the row has room; its "
            + "mast is off, if its length is 10 metres or more; a lift is left today.");
        WinterYard x = new WinterYard();
        due("the crane at first", x.count(12), 20);
        due("0", x.set(2, 0), BAD_VALUE);
        due("31", x.set(2, 31), BAD_VALUE);
        due("1", x.set(2, 1), 20);
        due("30", x.set(2, 30), 1);
        x.come(9, 31, 12, FIN);
        x.set(2, 12);
        x.pass(7);
        due("a tide of 30", x.lift(0, 0), REFUSED - 2);
        x.set(0, 1);
        x.pass(1);
        due("a tide of 31", x.liftReason(0, 0), 0);
        x.set(2, 11);
        due("a crane for 11", x.lift(0, 0), REFUSED - 3);
        x.set(2, 12);
        x.setCradles(FIN, 0);
        due("no cradle", x.lift(0, 0), REFUSED - 4);
        x.setCradles(FIN, 1);
        x.come(3, 5, 1, LONG);
        x.setRow(0, 13);
        x.lift(1, 0);
        due("9 metres left", x.lift(0, 0), REFUSED - 5);
        x.setRow(0, 14);
        due("10 metres left", x.liftReason(0, 0), 0);
        x.set(1, 1);
        due("no lift left", x.lift(0, 0), REFUSED - 7);
        x.set(1, 2);
        due("all as it needs", x.lift(0, 0), 2);
        due("ashore", x.lift(0, 1), REFUSED - 1);
        WinterYard y = new WinterYard();
        y.come(9, 5, 1, LONG);
        y.come(10, 5, 1, LONG);
        due("9 metres, with its mast", y.lift(0, 0), 1);
        due("10 metres, with its mast", y.lift(1, 0), REFUSED - 6);
        y.mast(1, false);
        due("10 metres, without", y.lift(1, 0), 2);
    }

    private static void launching() {
        quote("A launch needs: the boat stands ashore; its work is done; no boat stands farther out in its row; the tide "
            + "is at least its draft; the crane bears it; a lift is left today.");
        WinterYard x = busyYard();
        x.come(9, 33, 12, FIN);
        x.come(3, 5, 1, LONG);
        due("afloat", x.launch(0), REFUSED - 1);
        x.lift(0, 0);
        x.work(0, 8);
        x.pass(7);
        due("a day of work", x.launch(0), REFUSED - 2);
        x.lift(1, 0);
        x.set(0, 2);
        x.pass(1);
        due("a boat farther out", x.launch(0), REFUSED - 3);
        x.launch(1);
        due("a tide of 32", x.launch(0), REFUSED - 4);
        x.set(0, 3);
        due("a tide of 33", x.launchReason(0), 0);
        x.set(2, 11);
        due("a crane for 11", x.launch(0), REFUSED - 5);
        x.set(2, 12);
        x.set(1, 1);
        due("no lift left", x.launch(0), REFUSED - 6);
        x.set(1, 2);
        due("all as it needs", x.launch(0), 8);

        quote("Both take a lift, and the cradle is taken, or free again.");
        WinterYard y = new WinterYard();
        y.come(3, 5, 1, BILGE);
        y.lift(0, 0);
        due("lifts left", y.count(2), 3);
        due("lifts so far", y.count(6), 1);
        due("taken", y.cradle(BILGE, 1), 1);
        y.launch(0);
        due("lifts left", y.count(2), 2);
        due("lifts so far", y.count(6), 2);
        due("launches so far", y.count(7), 1);
        due("free again", y.cradle(BILGE, 1), 0);
        due("in none", y.boat(0, 6), NONE);
    }

    private static void moving() {
        quote("A boat that stands farthest out in its row can be moved to the outer end of another row with room; that "
            + "takes a lift, whatever the tide.");
        WinterYard x = busyYard();
        x.come(9, 40, 20, LONG);
        comeMany(x, 2, 5, 1, BILGE);
        due("afloat", x.move(0, 1), NOT_POSSIBLE);
        x.lift(1, 1);
        x.lift(2, 0);
        x.lift(0, 0);
        x.pass(7);
        due("not farthest out", x.move(2, 1), NOT_POSSIBLE);
        due("the same row", x.move(0, 0), NOT_POSSIBLE);
        x.setRow(1, 15);
        due("9 metres left", x.move(0, 1), FULL);
        x.setRow(1, 16);
        due("10 metres left, at low tide", x.move(0, 1), 2);
        due("at the outer end", x.stands(1, 1), 0);
        due("lifts left", x.count(2), 8);
        due("lifts so far", x.count(6), 4);
        due("launches so far", x.count(7), 0);
        due("its cradle", x.boat(0, 6), LONG);
        due("cradles", x.cradle(LONG, 1), 1);
        x.set(1, 1);
        due("no lift is left", x.move(2, 3), FULL);
    }

    private static void masts() {
        quote("MASTS, WORK");
        quote("Masts that are off lie in 2 racks, with room for 6 masts each, of at most 12 metres in the rack 0, and of "
            + "any length in the rack 1; a mast is as long as its boat.");
        WinterYard x = new WinterYard();
        comeMany(x, 7, 12, 1, LONG);
        comeMany(x, 7, 13, 1, LONG);
        for (int boat = 0; boat < 6; boat++) {
            due("12 metres", x.mast(boat, false), 0);
            due("13 metres", x.mast(7 + boat, false), 1);
        }
        due("masts in 0", x.count(8), 6);
        due("masts in 1", x.count(9), 6);
        due("the 7th of 12 metres", x.mast(6, false), FULL);
        due("the 7th of 13 metres", x.mast(13, false), FULL);
        WinterYard y = new WinterYard();
        y.come(20, 5, 1, LONG);
        y.come(3, 5, 1, LONG);
        due("20 metres", y.mast(0, false), 1);
        due("3 metres", y.mast(1, false), 0);

        quote("A mast that is taken off goes to the rack 0, if it may lie there and there is room, otherwise to the "
            + "rack 1.");
        x.mast(7, true);
        due("there is room in the rack 1 alone", x.mast(6, false), 1);
        x.mast(0, true);
        due("it may not lie in the rack 0", x.mast(7, false), FULL);
        due("there is room in the rack 0 again", x.mast(0, false), 0);

        quote("A mast is put up again only afloat, and taken off only afloat.");
        due("ashore", y.lift(1, 0), 1);
        due("up, ashore", y.mast(1, true), NOT_POSSIBLE);
        y.launch(1);
        due("up, afloat", y.mast(1, true), 0);
        y.lift(1, 0);
        due("off, ashore", y.mast(1, false), NOT_POSSIBLE);
        y.launch(1);
        due("off, afloat", y.mast(1, false), 0);
    }

    private static void work() {
        quote("Work on a boat takes days (0 at first, at most 99); only those days count on which it is ashore.");
        WinterYard x = new WinterYard();
        comeMany(x, 2, 3, 1, LONG);
        due("at first", x.boat(0, 8), 0);
        due("99", x.work(0, 99), 99);
        due("more", x.work(0, 1), FULL);
        due("98", x.work(1, 98), 98);
        due("more", x.work(1, 2), FULL);
        due("to 99", x.work(1, 1), 99);
        x.lift(0, 0);
        x.pass(10);
        due("ashore", x.boat(0, 8), 89);
        due("afloat", x.boat(1, 8), 99);

        quote("Each day the work that is left becomes 1 less.");
        for (int left = 88; left >= 0; left--) {
            x.pass(1);
            due("after a day", x.boat(0, 8), left);
        }
        x.pass(1);
        due("no less than none", x.boat(0, 8), 0);
        x.work(0, 5);
        x.pass(6);
        due("none after more days", x.boat(0, 8), 0);
    }

    private static void texts() {
        quote("TEXTS");
        quote("There is a text of at most 60 characters, empty at first.");
        WinterYard x = new WinterYard();
        due("at first", x.count(14), 0);
        for (int length = 1; length <= 60; length++) {
            due("typed", x.type('d'), length);
        }
        due("the 61st", x.type('d'), FULL);
        due("length", x.count(14), 60);

        quote("A plan is a text: one or more of these with \";\" between two: \"u\", a boat, \":\" and a row (it is "
            + "lifted); \"d\" and a boat (it is launched); \"m\", a boat, \":\" and a row (it is moved); \"-\" and a boat "
            + "(its mast is taken off); \"+\" and a boat (its mast is put up); \".\" and days (1 to 99).");
        WinterYard y = busyYard();
        comeMany(y, 2, 3, 1, LONG);
        due("lifted", performed(y, "u1:2"), 1);
        due("row", y.boat(1, 4), 2);
        due("moved", performed(y, "m1:3"), 1);
        due("row", y.boat(1, 4), 3);
        due("launched", performed(y, "d1"), 1);
        due("row", y.boat(1, 4), NONE);
        due("taken off", performed(y, "-1"), 1);
        due("rack", y.boat(1, 7), 0);
        due("put up", performed(y, "+1"), 1);
        due("rack", y.boat(1, 7), NONE);
        due("days", performed(y, ".1"), 1);
        due("day", y.count(0), 1);
        due("days", performed(y, ".99"), 1);
        due("day", y.count(0), 100);
        due("six", performed(y, "-0;u0:1;m0:0;.3;d0;+0"), 6);
        due("lifts", y.count(6), 6);
        due("day", y.count(0), 103);

        quote("Boats are 0 to 19, rows 0 to 3.");
        WinterYard z = busyYard();
        comeMany(z, 20, 3, 1, BILGE);
        due("the first", performed(z, "u0:0"), 1);
        due("the last", performed(z, "u19:3"), 1);
        due("boat 20", performed(z, "d20"), -102);
        due("row 4", performed(z, "m0:4"), -103);
    }

    private static void faults() {
        quote("Numbers have no zero in front, unless they are the single digit 0; a digit by which a number would be "
            + "greater than told is not allowed.");
        WinterYard x = new WinterYard();
        due("a zero in front", performed(x, "d01"), -102);
        due("the single digit 0", performed(x, "d0"), NOT_POSSIBLE);
        due("a zero in front of days", performed(x, ".01"), -101);
        due("greater than 19", performed(x, "d2;d20"), -105);
        due("greater than 3", performed(x, "u2:13"), -104);
        due("greater than 99", performed(x, ".100"), -103);
        due("0 days", performed(x, ".0"), -101);

        quote("The fault of the text is the index, from 0, of the first character that is not allowed at its place, or "
            + "the length of the text if it ends too early (the empty text does).");
        due("the empty text", performed(x, ""), -100);
        due("the first character", performed(x, "x1;?"), -100);
        due("a later one", performed(x, ".1?;?"), -102);
        String early = "u0:1;m1:2;";
        int[] isWhole = {4, 9};
        for (int length = 1; length <= early.length(); length++) {
            boolean whole = length == isWhole[0] || length == isWhole[1];
            int want = whole ? NOT_POSSIBLE : -100 - length;
            due("the first " + length, performed(x, early.substring(0, length)), want);
        }
    }

    private static void history() {
        quote("HISTORY");
        quote("A history of at most 4 states is kept; when one more is recorded, the oldest one is dropped; undo() "
            + "removes and restores the latest one.");
        WinterYard x = new WinterYard();
        for (int day = 1; day <= 7; day++) {
            x.pass(1);
            due("states", x.count(13), Math.min(4, day));
        }
        for (int left = 3; left >= 0; left--) {
            due("states left", x.undo(), left);
            due("the day", x.count(0), left + 3);
        }
        due("the older ones are dropped", x.undo(), NONE);

        quote("Each call of a method that is described as an act, and returns no error and not NONE, records the state "
            + "that was before it.");
        act(check, "come", TermsTest::bringToLife, 5, y -> y.come(3, 5, 1, LONG));
        act(check, "goAway", TermsTest::bringToLife, 4, y -> y.goAway(0));
        act(check, "setCradles", TermsTest::bringToLife, 6, y -> y.setCradles(BILGE, 7));
        act(check, "setRow", TermsTest::bringToLife, 55, y -> y.setRow(3, 54));
        act(check, "set", TermsTest::bringToLife, 3, y -> y.set(0, 4));
        act(check, "lift", TermsTest::afloatOnADayOfHighTide, 1, y -> y.lift(0, 1));
        act(check, "launch", TermsTest::afloatOnADayOfHighTide, 14, y -> y.launch(1));
        act(check, "move", TermsTest::afloatOnADayOfHighTide, 1, y -> y.move(1, 0));
        act(check, "mast", TermsTest::bringToLife, 1, y -> y.mast(3, true));
        act(check, "work", TermsTest::bringToLife, 8, y -> y.work(0, 1));
        act(check, "pass", TermsTest::bringToLife, 36, y -> y.pass(1));
        act(check, "restore", TermsTest::bringToLife, 5, WinterYard::restore);
        act(check, "perform", y -> {
            bringToLife(y);
            write(y, "-0;.3;+0");
        }, 3, WinterYard::perform);
        refused(check, "an error", TermsTest::bringToLife, BAD_VALUE, y -> y.pass(0));
        refused(check, "NONE", TermsTest::bringToLife, NONE, y -> y.setRow(3, 55));
        refused(check, "what is no act", TermsTest::bringToLife, 36, y -> y.tide(9));

        quote("There is one snapshot, empty at first.");
        WinterYard z = new WinterYard();
        due("empty", z.restore(), NONE);
        z.keep();
        z.pass(1);
        z.keep();
        z.pass(1);
        z.restore();
        due("the day of the one", z.count(0), 1);

        quote("A state is everything but the text, the history, the snapshot and the latest stop.");
        WinterYard w = new WinterYard();
        w.come(3, 5, 1, LONG);
        w.keep();
        performed(w, "-0;d0");
        write(w, "hello");
        w.pass(1);
        due("a state is undone", w.undo(), 1);
        due("the text", w.count(14), 5);
        due("the number of the stop", w.stopped(0), 1);
        due("the error of the stop", w.stopped(1), REFUSED - 1);
        w.undo();
        due("no boat", w.count(3), 0);
        due("the snapshot", w.restore(), 1);
        due("the history", w.count(13), 1);
        due("the text", w.count(14), 5);
        due("the number of the stop", w.stopped(0), 1);
    }

    private static void afloatOnADayOfHighTide(WinterYard x) {
        comeMany(x, 2, 9, 5, FIN);
        x.lift(1, 2);
        x.pass(14);
    }

    private static void errors() {
        quote("ERRORS");
        quote("Errors are reported by the constants below.");
        due("one of them", new WinterYard().goAway(0), WinterYard.UNKNOWN);

        quote("Where several errors can apply, the order of the @return line is the order of the checks.");
        WinterYard x = busyYard();
        due("UNKNOWN ahead of BAD_VALUE", x.come(0, 0, 0, 3), UNKNOWN);
        due("UNKNOWN ahead of BAD_VALUE", x.setCradles(3, 10), UNKNOWN);
        due("UNKNOWN ahead of BAD_VALUE", x.setRow(4, 9), UNKNOWN);
        due("UNKNOWN ahead of BAD_VALUE", x.set(3, 31), UNKNOWN);
        due("UNKNOWN ahead of BAD_VALUE", x.work(0, 0), UNKNOWN);
        due("UNKNOWN ahead of BAD_VALUE", x.boat(0, 11), UNKNOWN);
        due("UNKNOWN ahead of BAD_VALUE", x.row(4, 4), UNKNOWN);
        due("UNKNOWN ahead of BAD_VALUE", x.stands(4, -1), UNKNOWN);
        due("UNKNOWN ahead of BAD_VALUE", x.cradle(3, 3), UNKNOWN);
        comeMany(x, 20, 19, 1, LONG);
        due("BAD_VALUE ahead of FULL", x.come(2, 5, 1, LONG), BAD_VALUE);
        x.work(0, 99);
        due("BAD_VALUE ahead of FULL", x.work(0, 100), BAD_VALUE);
        for (int boat = 0; boat < 3; boat++) {
            x.mast(boat, false);
            x.lift(boat, boat / 2);
        }
        due("NOT_POSSIBLE ahead of FULL", x.move(0, 1), NOT_POSSIBLE);
        x.setRow(1, 39);
        due("FULL alone", x.move(1, 1), FULL);

        quote("NONE is no error; it is returned only if no error applies.");
        due("BAD_VALUE, with nothing stopped yet", x.stopped(2), BAD_VALUE);
        due("NONE", x.stopped(0), NONE);
        due("BAD_VALUE, with no such boat", x.stands(3, -1), BAD_VALUE);
        due("NONE", x.stands(3, 0), NONE);
        due("UNKNOWN, afloat nowhere", x.blockers(20), UNKNOWN);
        due("NONE", x.blockers(19), NONE);

        quote("A call that returns an error or NONE changes nothing (but for the latest stop of perform()).");
        refused(check, "UNKNOWN", TermsTest::bringToLife, UNKNOWN, y -> y.lift(9, 0));
        refused(check, "BAD_VALUE", TermsTest::bringToLife, BAD_VALUE, y -> y.work(0, 0));
        refused(check, "FULL", TermsTest::bringToLife, FULL, y -> y.work(0, 99));
        refused(check, "NOT_POSSIBLE", TermsTest::bringToLife, NOT_POSSIBLE, y -> y.goAway(3));
        refused(check, "NONE", TermsTest::bringToLife, NONE, y -> y.mast(0, true));
        refused(check, "REFUSED", TermsTest::bringToLife, REFUSED - 1, y -> y.launch(0));
        WinterYard stops = new WinterYard();
        due("stopped", performed(stops, ".5;d0"), NOT_POSSIBLE);
        due("the latest stop", stops.stopped(0), 1);
        due("and nothing else", stops.count(0), 0);
        due("no state", stops.count(13), 0);
    }

    private static void constants() {
        quote("The constants: `UNKNOWN = -1`: There is no such boat, row, kind or setting.");
        WinterYard x = busyYard();
        due("the number", WinterYard.UNKNOWN, -1);
        due("boat", x.launch(0), UNKNOWN);
        x.come(20, 40, 30, FIN);
        due("row", x.lift(0, 4), UNKNOWN);
        due("kind", x.cradle(3, 0), UNKNOWN);
        due("setting", x.set(3, 1), UNKNOWN);

        quote("`BAD_VALUE = -2`: Another argument is out of range.");
        due("the number", WinterYard.BAD_VALUE, -2);
        due("days", x.pass(100), BAD_VALUE);

        quote("`FULL = -3`: There is no more room.");
        due("the number", WinterYard.FULL, -3);
        x.work(0, 99);
        due("work", x.work(0, 1), FULL);

        quote("`NOT_POSSIBLE = -4`: This is not possible.");
        due("the number", WinterYard.NOT_POSSIBLE, -4);
        due("a boat afloat", x.move(0, 0), NOT_POSSIBLE);

        quote("`NONE = -5`: There is no such thing; not an error.");
        due("the number", WinterYard.NONE, -5);
        due("a row", x.boat(0, 4), NONE);

        quote("`REFUSED = -10`: Something cannot be done with a boat: this minus the reason is returned.");
        due("the number", WinterYard.REFUSED, -10);
        due("lift", x.lift(0, 0), REFUSED - x.liftReason(0, 0));
        due("its reason", x.liftReason(0, 0), 4);
        due("launch", x.launch(0), REFUSED - x.launchReason(0));
        due("its reason", x.launchReason(0), 1);
    }

    /** Where the heads of the interface stand: the file has them ahead of the same calls. */
    private static void heads() throws IOException {
        head("`come`, `goAway`, `setCradles`, `setRow`, `set`", "the yard");
        head("`lift`, `launch`, `move`, `mast`, `work`, `pass`", "what is done with boats");
        head("`type`, `clearText`, `perform`, `stopped`", "texts");
        head("`undo`, `keep`, `restore`", "history");
        head("`boat`, `row`, `stands`, `cradle`, `tide`, `liftReason`, `launchReason`, `blockers`, `launchDay`, "
            + "`bestRow`, `count`", "what is told");
    }

    private static void head(String calls, String words) throws IOException {
        quote("Ahead of the calls " + calls + " the interface says: ---- " + words + ".");
        String program = Files.readString(Path.of("src/main/java/WinterYard.java"));
        int at = program.indexOf("\n    // ---- " + words + "\n");
        check.holds(sentence + " does the program", at >= 0);
        for (String call : calls.replace("`", "").split(", ")) {
            int next = program.indexOf("\n    public int ", at + 1);
            String due = "\n    public int " + call + "(";
            check.holds(call + " stands behind " + words, next >= 0 && program.startsWith(due, next));
            at = next;
        }
    }
}
