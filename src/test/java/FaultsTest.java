import java.util.HashSet;
import java.util.Set;

/** The faults of a text: a character at each place where another one is due, numbers at the edge, early ends. */
public final class FaultsTest extends Play {
    private static final Check check = new Check("FaultsTest");

    // Every thing that a plan may have, and every beginning of one.
    private static final Set<String> things = new HashSet<>();
    private static final Set<String> beginnings = new HashSet<>();

    // A yard takes 512 calls; there are many more texts than one can read.
    private static WinterYard yard = new WinterYard();
    private static int calls = 0;

    public static void main(String[] args) {
        writeThings();
        oneCharacter();
        everyCharacterAtEveryPlace();
        everyShortText();
        everyEarlyEnd();
        numbersOfBoats();
        numbersOfRows();
        numbersOfDays();
        zerosInFront();
        noSignsBetweenThings();
        thingsThatTakeNoRow();
        sixtyCharacters();
        aFaultBehindThingsThatCouldBeDone();
        theFirstFaultCounts();
        whatIsTypedLater();
        check.end();
    }

    private static void writeThings() {
        for (int boat = 0; boat <= 19; boat++) {
            for (int row = 0; row <= 3; row++) {
                things.add("u" + boat + ":" + row);
                things.add("m" + boat + ":" + row);
            }
            things.add("d" + boat);
            things.add("-" + boat);
            things.add("+" + boat);
        }
        for (int days = 1; days <= 99; days++) {
            things.add("." + days);
        }
        for (String thing : things) {
            for (int length = 0; length <= thing.length(); length++) {
                beginnings.add(thing.substring(0, length));
            }
        }
        check.due("things", things.size(), 20 * 4 * 2 + 20 * 3 + 99);
    }

    private static boolean isBeginningOfAPlan(String text) {
        String[] pieces = text.split(";", -1);
        for (int i = 0; i < pieces.length - 1; i++) {
            if (!things.contains(pieces[i])) {
                return false;
            }
        }
        return beginnings.contains(pieces[pieces.length - 1]);
    }

    /** The fault of a text as the lists of things tell it, or NONE. */
    private static int faultOf(String text) {
        for (int length = 1; length <= text.length(); length++) {
            if (!isBeginningOfAPlan(text.substring(0, length))) {
                return length - 1;
            }
        }
        return things.contains(text.substring(text.lastIndexOf(';') + 1)) ? NONE : text.length();
    }

    private static int performedOnSomeYard(String text) {
        if (calls + text.length() + 2 > 512) {
            yard = new WinterYard();
            calls = 0;
        }
        calls += text.length() + 2;
        return performed(yard, text);
    }

    /** In a yard without boats a plan without fault either lets days pass, or is stopped. */
    private static void read(String text) {
        int fault = faultOf(text);
        int got = performedOnSomeYard(text);
        if (fault != NONE) {
            check.due("\"" + text + "\"", got, -100 - fault);
        } else {
            boolean daysAlone = text.matches("[.0-9;]*");
            check.due("\"" + text + "\"", got, daysAlone ? text.split(";").length : NOT_POSSIBLE);
        }
    }

    private static void fault(String text, int due) {
        check.due("the fault of \"" + text + "\" in the lists", faultOf(text), due);
        check.due("the fault of \"" + text + "\"", performedOnSomeYard(text), -100 - due);
    }

    private static void fine(String text) {
        check.due("\"" + text + "\" has no fault in the lists", faultOf(text), NONE);
        int got = performedOnSomeYard(text);
        check.holds("\"" + text + "\" has no fault, but answered " + got, got > -100);
    }

    private static void oneCharacter() {
        fault("", 0);
        for (char c = 0; c < 256; c++) {
            fault("" + c, "udm-+.".indexOf(c) >= 0 ? 1 : 0);
        }
    }

    /** Behind each beginning every character from 0 to 255, and some far greater ones. */
    private static void everyCharacterAtEveryPlace() {
        String[] before = {"", "u", "u0", "u1", "u2", "u9", "u10", "u19", "u0:", "u10:", "u0:0", "u0:3", "m", "m0", "m1",
            "m19", "m5:", "m5:2", "d", "d0", "d1", "d2", "d10", "d19", "-", "-0", "-1", "-2", "-19", "+", "+0", "+1",
            "+9", "+12", ".", ".1", ".9", ".10", ".99", ".5;", ".5;u", ".5;u1", "d3;", "d3;m7:1", "d3;m7:1;", ".1;.2;.3"};
        String far = "\u0100\u0130\u0175\u012d\u012e\u012b\u013a\u013b\u0660\u0661\uff11\uff10\uffff\u0b66\u2212";
        for (String beginning : before) {
            for (char c = 0; c < 256; c++) {
                read(beginning + c);
                read(beginning + c + "0");
            }
            for (char c : far.toCharArray()) {
                check.due("a far character is not allowed", faultOf(beginning + c), beginning.length());
                read(beginning + c);
            }
        }
    }

    private static void everyShortText() {
        everyText("", "udm-+.:;0123459x ", 3);
        everyText("", "ud.:;019", 5);
        everyText("u1", "0:;34.", 4);
        everyText("m0:2;", "m-.0129:;", 3);
    }

    private static void everyText(String beginning, String characters, int more) {
        read(beginning);
        if (more > 0) {
            for (char c : characters.toCharArray()) {
                everyText(beginning + c, characters, more - 1);
            }
        }
    }

    /** "The length of the text if it ends too early." */
    private static void everyEarlyEnd() {
        fault("u", 1);
        fault("u5", 2);
        fault("u15", 3);
        fault("u5:", 3);
        fault("u15:", 4);
        fault("m", 1);
        fault("m5", 2);
        fault("m15", 3);
        fault("m15:", 4);
        fault("d", 1);
        fault("-", 1);
        fault("+", 1);
        fault(".", 1);
        for (String thing : new String[] {"u5:0", "m15:3", "d5", "d15", "-5", "+5", ".5", ".55"}) {
            fine(thing);
            fault(thing + ";", thing.length() + 1);
            for (int length = 0; length < thing.length(); length++) {
                String early = "d0;" + thing.substring(0, length);
                if (faultOf(early) == NONE) {
                    fine(early);
                } else {
                    fault(early, early.length());
                }
            }
        }
    }

    /** "Boats are 0 to 19"; "a digit by which a number would be greater than told is not allowed". */
    private static void numbersOfBoats() {
        for (String sign : new String[] {"d", "-", "+"}) {
            for (int boat = 0; boat <= 199; boat++) {
                if (boat <= 19) {
                    fine(sign + boat);
                } else {
                    fault(sign + boat, boat <= 99 ? 2 : 3);
                }
            }
        }
        for (String sign : new String[] {"u", "m"}) {
            for (int boat = 0; boat <= 199; boat++) {
                if (boat <= 19) {
                    fine(sign + boat + ":2");
                } else {
                    fault(sign + boat + ":2", boat <= 99 ? 2 : 3);
                }
            }
        }
    }

    /** "Rows 0 to 3". */
    private static void numbersOfRows() {
        for (String beginning : new String[] {"u7:", "u17:", "m7:", "m17:", ".1;m0:"}) {
            int at = beginning.length();
            for (int row = 0; row <= 99; row++) {
                if (row <= 3) {
                    fine(beginning + row);
                } else {
                    boolean firstIsFine = row >= 10 && row < 40;
                    fault(beginning + row, firstIsFine ? at + 1 : at);
                }
            }
            fault(beginning + "00", at + 1);
            fault(beginning + "-1", at);
        }
    }

    /** "Days (1 to 99)". */
    private static void numbersOfDays() {
        for (int days = 1; days <= 99; days++) {
            fine("." + days);
        }
        fault(".0", 1);
        fault(".00", 1);
        fault(".100", 3);
        fault(".990", 3);
        fault(".999", 3);
        fault(".10;.0", 5);
        fault(".-1", 1);
        fault(".+1", 1);
    }

    /** "Numbers have no zero in front, unless they are the single digit 0." */
    private static void zerosInFront() {
        for (int digit = 0; digit <= 9; digit++) {
            fault("d0" + digit, 2);
            fault("-0" + digit, 2);
            fault("+0" + digit, 2);
            fault("u0" + digit + ":0", 2);
            fault("m0" + digit + ":0", 2);
            fault("u5:0" + digit, 4);
            fault("m5:0" + digit, 4);
            fault(".0" + digit, 1);
        }
        fine("d0");
        fine("-0");
        fine("+0");
        fine("u0:0");
        fine("m0:0");
        fine("d10");
        fine(".10");
    }

    private static void noSignsBetweenThings() {
        fault("d0d1", 2);
        fault("d0 ;d1", 2);
        fault("d0; d1", 3);
        fault("d0;;d1", 3);
        fault(";d0", 0);
        fault("d0,d1", 2);
        fault("d0:d1", 2);
        fault("u0:1u1:1", 4);
        fault(".1.1", 2);
        fault(" d0", 0);
        fault("d0 ", 2);
        fault("D0", 0);
        fault("U0:0", 0);
        fault("M0:0", 0);
        fine("d0;d1");
    }

    private static void thingsThatTakeNoRow() {
        fault("d1:0", 2);
        fault("-1:0", 2);
        fault("+1:0", 2);
        fault(".1:0", 2);
        fault("d19:0", 3);
        fault("u1;", 2);
        fault("m1;", 2);
        fault("u1::", 3);
    }

    /** The longest plan that 60 characters hold, and faults at their end. */
    private static void sixtyCharacters() {
        String days = times(19, ".1", ";") + ";";
        check.due("19 things and a sign between", days.length(), 57);
        fine(days + ".1");
        fine(days + ".12");
        fault(days, 57);
        fault(days + ".", 58);
        fault(days + ".1;", 60);
        fault(days + ".1x", 59);
        fault(days + ".0x", 58);
        fault(days + "u19", 60);
        fault(days + "d20", 59);
        String lifts = times(9, "u10:3", ";") + ";";
        check.due("9 lifts and a sign between", lifts.length(), 54);
        fine(lifts + "u10:3");
        fine(lifts + "d1;d19");
        fault(lifts + "u10:3;", 60);
        fault(lifts + "u10:33", 59);
        fault(lifts + "d1;u19", 60);
        fault(times(60, ";", ""), 0);
        fault("d" + times(59, "1", ""), 3);
        fault("." + times(59, "9", ""), 3);
    }

    /** A text with a fault does nothing at all. */
    private static void aFaultBehindThingsThatCouldBeDone() {
        for (String text : new String[] {"+3;.2;m2:0;", "+3;.2;m2:0;d20", "+3;x", ".9;.0", "-0;"}) {
            int due = -100 - faultOf(text);
            refused(check, "perform of \"" + text + "\"", x -> {
                bringToLife(x);
                write(x, text);
            }, due, x -> x.perform());
        }
    }

    private static void theFirstFaultCounts() {
        fault("x;d0;x", 0);
        fault("d0;x;x", 3);
        fault("d0;d1;x", 6);
        fault("d99:x", 2);
        fault("u9x:9", 2);
    }

    private static void whatIsTypedLater() {
        WinterYard x = new WinterYard();
        int[] due = {-101, 1, 1, -104, -105, 2, -106};
        String text = ".12;.3x";
        for (int i = 0; i < text.length(); i++) {
            check.due("type", x.type(text.charAt(i)), i + 1);
            check.due("perform of " + text.substring(0, i + 1), x.perform(), due[i]);
        }
        check.due("the day", x.count(0), 1 + 12 + 15);
        check.due("clearText", x.clearText(), 7);
        check.due("perform", x.perform(), -100);
    }
}
