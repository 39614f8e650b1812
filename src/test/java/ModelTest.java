/** Long runs of calls, each answered by the program as by the model; the same runs every time. */
public final class ModelTest {
    private static final int RUNS = 3000;
    // A step that types a plan makes up to 70 calls, and an object has 512.
    private static final int CALLS_BEFORE_LAST_STEP = 512 - 70;

    private static final Check check = new Check("ModelTest");

    private long seed;
    private final int mood;
    private final WinterYard x = new WinterYard();
    private final Model m = new Model();
    private final StringBuilder told = new StringBuilder();
    private int calls = 0;

    private ModelTest(int run) {
        seed = run * 7919L + 17;
        mood = run % 4;
    }

    public static void main(String[] args) {
        for (int run = 0; run < RUNS && !check.failed(); run++) {
            ModelTest test = new ModelTest(run);
            test.begin();
            while (test.calls < CALLS_BEFORE_LAST_STEP && !check.failed()) {
                test.step();
            }
            check.holds("at most 512 calls", test.calls <= 512);
            if (check.failed()) {
                System.out.println("run " + run + ":" + test.told);
            }
        }
        check.end();
    }

    private int number(int least, int most) {
        seed = seed * 6364136223846793005L + 1442695040888963407L;
        return least + (int) ((seed >>> 33) % (most - least + 1));
    }

    /** Mostly in the range, at times one beside it or far away. */
    private int near(int least, int most) {
        int luck = number(0, 39);
        if (luck == 0) {
            return least - 1;
        }
        if (luck == 1) {
            return most + 1;
        }
        if (luck == 2) {
            return number(0, 1) == 0 ? Integer.MIN_VALUE : Integer.MAX_VALUE;
        }
        return number(least, most);
    }

    private int anyBoat() {
        return near(0, mood == 3 ? 19 : 7);
    }

    private void due(String call, int got, int want) {
        calls++;
        told.append(' ').append(call).append('=').append(got);
        check.due(call, got, want);
    }

    private void begin() {
        if (mood > 0) {
            due("set(1,9)", x.set(1, 9), m.set(1, 9));
        }
        if (mood == 3) {
            due("set(2,30)", x.set(2, 30), m.set(2, 30));
        }
        for (int i = 0; i < (mood == 3 ? 17 : 7); i++) {
            come();
        }
    }

    private void come() {
        int length = mood == 1 ? near(3, 8) : near(3, 20);
        int draft = mood == 2 ? near(25, 40) : near(5, 40);
        int weight = near(1, mood == 3 ? 30 : 20);
        int keel = near(0, 2);
        due("come(" + length + "," + draft + "," + weight + "," + keel + ")",
            x.come(length, draft, weight, keel), m.come(length, draft, weight, keel));
    }

    private void step() {
        if (number(0, 1) == 0) {
            ask();
            return;
        }
        int what = number(0, 29);
        if (what < 9) {
            lift();
        } else if (what < 14) {
            launch();
        } else if (what < 18) {
            move();
        } else if (what < 21) {
            mast();
        } else if (what < 23) {
            passOrWork();
        } else if (what < 26) {
            settle();
        } else if (what < 27) {
            plan();
        } else {
            history();
        }
    }

    private void lift() {
        int boat = anyBoat();
        int row = near(0, 3);
        due("lift(" + boat + "," + row + ")", x.lift(boat, row), m.lift(boat, row));
    }

    private void launch() {
        int boat = anyBoat();
        due("launch(" + boat + ")", x.launch(boat), m.launch(boat));
    }

    private void move() {
        int row = near(0, 3);
        int boat = number(0, 2) == 0 ? anyBoat() : m.row(number(0, 3), 3);
        due("move(" + boat + "," + row + ")", x.move(boat, row), m.move(boat, row));
    }

    private void mast() {
        int boat = anyBoat();
        boolean up = number(0, 3) == 0;
        due("mast(" + boat + "," + up + ")", x.mast(boat, up), m.mast(boat, up));
    }

    private void passOrWork() {
        if (number(0, 2) == 0) {
            int boat = anyBoat();
            int days = number(0, 1) == 0 ? near(1, 99) : near(1, 9);
            due("work(" + boat + "," + days + ")", x.work(boat, days), m.work(boat, days));
        } else {
            int days = number(0, 9) == 0 ? near(1, 99) : near(1, 5);
            due("pass(" + days + ")", x.pass(days), m.pass(days));
        }
    }

    private void settle() {
        int what = number(0, 5);
        if (what == 0) {
            int kind = near(0, 2);
            int many = near(0, 9);
            due("setCradles(" + kind + "," + many + ")", x.setCradles(kind, many), m.setCradles(kind, many));
        } else if (what == 1) {
            int row = near(0, 3);
            int metres = near(10, 60);
            due("setRow(" + row + "," + metres + ")", x.setRow(row, metres), m.setRow(row, metres));
        } else if (what == 2) {
            int which = near(0, 2);
            int value = which == 2 ? near(1, 30) : near(which == 0 ? 0 : 1, 9);
            due("set(" + which + "," + value + ")", x.set(which, value), m.set(which, value));
        } else if (what == 3) {
            int boat = anyBoat();
            due("goAway(" + boat + ")", x.goAway(boat), m.goAway(boat));
        } else {
            come();
        }
    }

    private void plan() {
        if (number(0, 5) > 0) {
            due("clearText()", x.clearText(), m.clearText());
        }
        String text = planText();
        for (int i = 0; i < text.length(); i++) {
            char c = text.charAt(i);
            due("type('" + c + "')", x.type(c), m.type(c));
        }
        due("perform()", x.perform(), m.perform());
        due("stopped(0)", x.stopped(0), m.stopped(0));
        due("stopped(1)", x.stopped(1), m.stopped(1));
        due("count(13)", x.count(13), m.count(13));
    }

    private String planText() {
        StringBuilder text = new StringBuilder();
        int things = number(1, number(0, 3) == 0 ? 22 : 5);
        for (int i = 0; i < things; i++) {
            text.append(i == 0 ? "" : ";").append(thing());
        }
        if (number(0, 2) == 0) {
            int at = number(0, text.length());
            String odd = "udm-+.;:0123456789 x" + (char) 233;
            char c = odd.charAt(number(0, odd.length() - 1));
            if (number(0, 1) == 0 || at == text.length()) {
                text.insert(at, c);
            } else {
                text.setCharAt(at, c);
            }
        }
        return text.substring(0, Math.min(text.length(), 62));
    }

    private String thing() {
        int boat = number(0, 19) == 0 ? number(0, 25) : number(0, mood == 3 ? 19 : 7);
        int row = number(0, 29) == 0 ? 4 : number(0, 3);
        switch (number(0, 6)) {
            case 0:
            case 1:
                return "u" + boat + ":" + row;
            case 2:
                return "d" + boat;
            case 3:
                return "m" + boat + ":" + row;
            case 4:
                return "-" + boat;
            case 5:
                return "+" + boat;
            default:
                return "." + (number(0, 9) == 0 ? number(0, 101) : number(1, 9));
        }
    }

    private void history() {
        int what = number(0, 5);
        if (what < 3) {
            due("undo()", x.undo(), m.undo());
        } else if (what < 5) {
            due("restore()", x.restore(), m.restore());
        } else {
            due("keep()", x.keep(), m.keep());
        }
    }

    private void ask() {
        int boat = anyBoat();
        int row = near(0, 3);
        int kind = near(0, 2);
        switch (number(0, 11)) {
            case 0:
            case 1: {
                int what = near(0, 10);
                due("boat(" + boat + "," + what + ")", x.boat(boat, what), m.boat(boat, what));
                break;
            }
            case 2: {
                int what = near(0, 3);
                due("row(" + row + "," + what + ")", x.row(row, what), m.row(row, what));
                break;
            }
            case 3: {
                int rank = near(0, 3);
                due("stands(" + row + "," + rank + ")", x.stands(row, rank), m.stands(row, rank));
                break;
            }
            case 4: {
                int what = near(0, 2);
                due("cradle(" + kind + "," + what + ")", x.cradle(kind, what), m.cradle(kind, what));
                break;
            }
            case 5: {
                int day = near(0, 9999);
                due("tide(" + day + ")", x.tide(day), m.tide(day));
                break;
            }
            case 6:
                due("liftReason(" + boat + "," + row + ")", x.liftReason(boat, row), m.liftReason(boat, row));
                break;
            case 7:
                due("launchReason(" + boat + ")", x.launchReason(boat), m.launchReason(boat));
                break;
            case 8:
                due("blockers(" + boat + ")", x.blockers(boat), m.blockers(boat));
                break;
            case 9:
                due("launchDay(" + boat + ")", x.launchDay(boat), m.launchDay(boat));
                break;
            case 10:
                due("bestRow(" + boat + ")", x.bestRow(boat), m.bestRow(boat));
                break;
            default: {
                int what = near(0, 14);
                due("count(" + what + ")", x.count(what), m.count(what));
                break;
            }
        }
    }
}
