import java.util.ArrayDeque;
import java.util.ArrayList;
import java.util.Deque;
import java.util.List;
import java.util.TreeMap;
import java.util.regex.Matcher;
import java.util.regex.Pattern;

/**
 * The document once more, in other words than the program's: boats are objects
 * in lists, a lift is a step of a day's list, and plans are matched by a pattern.
 */
final class Model {
    private static final int UNKNOWN = -1;
    private static final int BAD_VALUE = -2;
    private static final int FULL = -3;
    private static final int NOT_POSSIBLE = -4;
    private static final int NONE = -5;

    private static final String BOAT = "(?:1[0-9]|[0-9])";
    private static final String THING =
        "(?:[um]" + BOAT + ":[0-3]|[d+\\-]" + BOAT + "|\\.[1-9][0-9]?)";
    private static final Pattern PLAN = Pattern.compile(THING + "(?:;" + THING + ")*");

    private static final class Boat {
        int length;
        int draft;
        int weight;
        int keel;
        int cradle = NONE;
        int rack = NONE;
        int work;
        int arrived;
        int lifted;

        Boat copy() {
            Boat b = new Boat();
            b.length = length;
            b.draft = draft;
            b.weight = weight;
            b.keel = keel;
            b.cradle = cradle;
            b.rack = rack;
            b.work = work;
            b.arrived = arrived;
            b.lifted = lifted;
            return b;
        }
    }

    private static final class State {
        final TreeMap<Integer, Boat> fleet = new TreeMap<>();
        final List<List<Integer>> rows = new ArrayList<>();
        int[] metres = {40, 40, 40, 40};
        int[] cradles = {4, 4, 4};
        int[] settings = {3, 4, 20};
        final List<Integer> liftDays = new ArrayList<>();
        int launches;
        int day;

        State copy() {
            State s = new State();
            fleet.forEach((number, boat) -> s.fleet.put(number, boat.copy()));
            rows.forEach(row -> s.rows.add(new ArrayList<>(row)));
            s.metres = metres.clone();
            s.cradles = cradles.clone();
            s.settings = settings.clone();
            s.liftDays.addAll(liftDays);
            s.launches = launches;
            s.day = day;
            return s;
        }
    }

    private State now = new State();
    private State snapshot = null;
    private final Deque<State> history = new ArrayDeque<>();
    private String text = "";
    private int[] stop = {NONE, NONE};

    Model() {
        for (int i = 0; i < 4; i++) {
            now.rows.add(new ArrayList<>());
        }
    }

    private int acted(State before, int answer) {
        if (answer > -1) {
            history.addLast(before);
            if (history.size() > 4) {
                history.removeFirst();
            }
        } else {
            now = before;
        }
        return answer;
    }

    private static boolean outside(int value, int least, int most) {
        return value < least || value > most;
    }

    private int rowOf(int number) {
        for (int row = 0; row < 4; row++) {
            if (now.rows.get(row).contains(number)) {
                return row;
            }
        }
        return NONE;
    }

    private int taken(int row) {
        return now.rows.get(row).stream().mapToInt(n -> now.fleet.get(n).length + 1).sum();
    }

    private int takenCradles(int kind) {
        return (int) now.fleet.values().stream().filter(b -> b.cradle == kind).count();
    }

    private int masts(int rack) {
        return (int) now.fleet.values().stream().filter(b -> b.rack == rack).count();
    }

    private int liftsLeft() {
        long used = now.liftDays.stream().filter(d -> d == now.day).count();
        return used > now.settings[1] ? 0 : now.settings[1] - (int) used;
    }

    private int tideAt(int day) {
        int inCycle = day % 14;
        int distance = inCycle < 7 ? 7 - inCycle : inCycle - 7;
        return 30 + now.settings[0] * distance;
    }

    int come(int length, int draft, int weight, int keel) {
        if (keel != 0 && keel != 1 && keel != 2) {
            return UNKNOWN;
        }
        if (outside(length, 3, 20) || outside(draft, 5, 40) || outside(weight, 1, 30)) {
            return BAD_VALUE;
        }
        if (now.fleet.size() == 20) {
            return FULL;
        }
        State before = now.copy();
        int number = 0;
        while (now.fleet.containsKey(number)) {
            number++;
        }
        Boat boat = new Boat();
        boat.length = length;
        boat.draft = draft;
        boat.weight = weight;
        boat.keel = keel;
        now.fleet.put(number, boat);
        return acted(before, number);
    }

    int goAway(int number) {
        if (!now.fleet.containsKey(number)) {
            return UNKNOWN;
        }
        if (rowOf(number) != NONE || now.fleet.get(number).rack != NONE) {
            return NOT_POSSIBLE;
        }
        State before = now.copy();
        now.fleet.remove(number);
        return acted(before, now.fleet.size());
    }

    int setCradles(int kind, int many) {
        if (outside(kind, 0, 2)) {
            return UNKNOWN;
        }
        return change(now.cradles, kind, many, 0, 9, takenCradles(kind));
    }

    int setRow(int row, int metres) {
        if (outside(row, 0, 3)) {
            return UNKNOWN;
        }
        return change(now.metres, row, metres, 10, 60, taken(row));
    }

    int set(int which, int value) {
        if (outside(which, 0, 2)) {
            return UNKNOWN;
        }
        int most = which == 2 ? 30 : 9;
        return change(now.settings, which, value, which == 0 ? 0 : 1, most, 0);
    }

    private int change(int[] numbers, int at, int value, int least, int most, int taken) {
        if (outside(value, least, most)) {
            return BAD_VALUE;
        }
        if (taken > value) {
            return NOT_POSSIBLE;
        }
        int previous = numbers[at];
        if (previous == value) {
            return NONE;
        }
        State before = now.copy();
        numbers[at] = value;
        return acted(before, previous);
    }

    private int cradleKind(Boat boat) {
        int[] bears = {30, 12, 20};
        int[] kinds = {boat.keel, boat.keel == 0 ? 2 : 0};
        for (int i = 0; i < (boat.keel == 1 ? 1 : 2); i++) {
            int kind = kinds[i];
            double most = i == 0 ? bears[kind] : bears[kind] / 2.0;
            if (takenCradles(kind) < now.cradles[kind] && boat.weight <= most) {
                return kind;
            }
        }
        return NONE;
    }

    int liftReason(int number, int row) {
        if (!now.fleet.containsKey(number) || outside(row, 0, 3)) {
            return UNKNOWN;
        }
        Boat boat = now.fleet.get(number);
        boolean[] holds = {
            rowOf(number) != NONE,
            tideAt(now.day) < boat.draft,
            boat.weight > now.settings[2],
            cradleKind(boat) == NONE,
            taken(row) + boat.length + 1 > now.metres[row],
            boat.length >= 10 && boat.rack == NONE,
            liftsLeft() == 0,
        };
        return first(holds);
    }

    int launchReason(int number) {
        if (!now.fleet.containsKey(number)) {
            return UNKNOWN;
        }
        Boat boat = now.fleet.get(number);
        boolean[] holds = {
            rowOf(number) == NONE,
            boat.work > 0,
            blockers(number) > 0,
            tideAt(now.day) < boat.draft,
            boat.weight > now.settings[2],
            liftsLeft() == 0,
        };
        return first(holds);
    }

    private static int first(boolean[] holds) {
        for (int i = 0; i < holds.length; i++) {
            if (holds[i]) {
                return i + 1;
            }
        }
        return 0;
    }

    int lift(int number, int row) {
        int reason = liftReason(number, row);
        if (reason != 0) {
            return reason == UNKNOWN ? UNKNOWN : -10 - reason;
        }
        State before = now.copy();
        Boat boat = now.fleet.get(number);
        boat.cradle = cradleKind(boat);
        boat.arrived = now.day;
        boat.lifted++;
        now.rows.get(row).add(number);
        now.liftDays.add(now.day);
        return acted(before, now.rows.get(row).size());
    }

    int launch(int number) {
        int reason = launchReason(number);
        if (reason != 0) {
            return reason == UNKNOWN ? UNKNOWN : -10 - reason;
        }
        State before = now.copy();
        Boat boat = now.fleet.get(number);
        boat.cradle = NONE;
        now.rows.get(rowOf(number)).remove((Integer) number);
        now.liftDays.add(now.day);
        now.launches++;
        return acted(before, now.day - boat.arrived);
    }

    int move(int number, int row) {
        if (!now.fleet.containsKey(number) || outside(row, 0, 3)) {
            return UNKNOWN;
        }
        int from = rowOf(number);
        if (from == NONE || from == row || blockers(number) != 0) {
            return NOT_POSSIBLE;
        }
        if (taken(row) + now.fleet.get(number).length >= now.metres[row] || liftsLeft() == 0) {
            return FULL;
        }
        State before = now.copy();
        now.rows.get(from).remove((Integer) number);
        now.rows.get(row).add(number);
        now.liftDays.add(now.day);
        return acted(before, now.rows.get(row).size());
    }

    int mast(int number, boolean up) {
        if (!now.fleet.containsKey(number)) {
            return UNKNOWN;
        }
        if (rowOf(number) != NONE) {
            return NOT_POSSIBLE;
        }
        Boat boat = now.fleet.get(number);
        if (up == (boat.rack == NONE)) {
            return NONE;
        }
        int rack = boat.rack;
        if (!up) {
            rack = boat.length < 13 && masts(0) < 6 ? 0 : 1;
            if (masts(rack) == 6) {
                return FULL;
            }
        }
        State before = now.copy();
        boat.rack = up ? NONE : rack;
        return acted(before, rack);
    }

    int work(int number, int days) {
        if (!now.fleet.containsKey(number)) {
            return UNKNOWN;
        }
        if (outside(days, 1, 99)) {
            return BAD_VALUE;
        }
        Boat boat = now.fleet.get(number);
        if (boat.work + days > 99) {
            return FULL;
        }
        State before = now.copy();
        boat.work += days;
        return acted(before, boat.work);
    }

    int pass(int days) {
        if (outside(days, 1, 99)) {
            return BAD_VALUE;
        }
        if (now.day + days >= 10000) {
            return FULL;
        }
        State before = now.copy();
        for (int i = 0; i < days; i++) {
            now.day++;
            now.fleet.forEach((number, boat) -> {
                if (rowOf(number) != NONE && boat.work > 0) {
                    boat.work--;
                }
            });
        }
        return acted(before, tideAt(now.day));
    }

    int type(char character) {
        if (text.length() == 60) {
            return FULL;
        }
        text = text + character;
        return text.length();
    }

    int clearText() {
        int length = text.length();
        text = "";
        return length;
    }

    /** The shortest beginning that no plan has ends with the fault. */
    private int fault() {
        for (int end = 1; end <= text.length(); end++) {
            Matcher matcher = PLAN.matcher(text.substring(0, end));
            if (!matcher.matches() && !matcher.hitEnd()) {
                return end - 1;
            }
        }
        return PLAN.matcher(text).matches() ? NONE : text.length();
    }

    int perform() {
        int fault = fault();
        if (fault != NONE) {
            return -100 - fault;
        }
        State before = now.copy();
        List<State> historyBefore = new ArrayList<>(history);
        String[] things = text.split(";");
        int answer = things.length;
        for (int i = 0; i < things.length && answer >= 0; i++) {
            int got = one(things[i]);
            if (got < 0 && got != NONE) {
                stop = new int[] {i, got};
                answer = NOT_POSSIBLE;
            }
        }
        history.clear();
        history.addAll(historyBefore);
        return acted(before, answer);
    }

    private int one(String thing) {
        String[] numbers = thing.substring(1).split(":");
        int number = Integer.parseInt(numbers[0]);
        switch (thing.charAt(0)) {
            case 'u': return lift(number, Integer.parseInt(numbers[1]));
            case 'm': return move(number, Integer.parseInt(numbers[1]));
            case 'd': return launch(number);
            case '-': return mast(number, false);
            case '+': return mast(number, true);
            default: return pass(number);
        }
    }

    int stopped(int what) {
        return outside(what, 0, 1) ? BAD_VALUE : stop[what];
    }

    int undo() {
        if (history.isEmpty()) {
            return NONE;
        }
        now = history.removeLast();
        return history.size();
    }

    int keep() {
        snapshot = now.copy();
        return now.fleet.size();
    }

    int restore() {
        if (snapshot == null) {
            return NONE;
        }
        State before = now;
        now = snapshot.copy();
        return acted(before, now.fleet.size());
    }

    int boat(int number, int what) {
        Boat boat = now.fleet.get(number);
        if (boat == null) {
            return UNKNOWN;
        }
        int row = rowOf(number);
        switch (what) {
            case 0: return boat.length;
            case 1: return boat.draft;
            case 2: return boat.weight;
            case 3: return boat.keel;
            case 4: return row;
            case 5: return row == NONE ? NONE : now.rows.get(row).indexOf(number);
            case 6: return boat.cradle;
            case 7: return boat.rack;
            case 8: return boat.work;
            case 9: return row == NONE ? 0 : now.day - boat.arrived;
            case 10: return boat.lifted;
            default: return BAD_VALUE;
        }
    }

    int row(int row, int what) {
        if (outside(row, 0, 3)) {
            return UNKNOWN;
        }
        List<Integer> inIt = now.rows.get(row);
        switch (what) {
            case 0: return now.metres[row];
            case 1: return taken(row);
            case 2: return inIt.size();
            case 3: return inIt.isEmpty() ? NONE : inIt.get(inIt.size() - 1);
            default: return BAD_VALUE;
        }
    }

    int stands(int row, int rank) {
        if (outside(row, 0, 3)) {
            return UNKNOWN;
        }
        if (rank < 0) {
            return BAD_VALUE;
        }
        return rank < now.rows.get(row).size() ? now.rows.get(row).get(rank) : NONE;
    }

    int cradle(int kind, int what) {
        if (outside(kind, 0, 2)) {
            return UNKNOWN;
        }
        switch (what) {
            case 0: return now.cradles[kind];
            case 1: return takenCradles(kind);
            case 2: return kind == 0 ? 30 : kind == 1 ? 12 : 20;
            default: return BAD_VALUE;
        }
    }

    int tide(int day) {
        return outside(day, 0, 9999) ? BAD_VALUE : tideAt(day);
    }

    int blockers(int number) {
        if (!now.fleet.containsKey(number)) {
            return UNKNOWN;
        }
        int row = rowOf(number);
        if (row == NONE) {
            return NONE;
        }
        List<Integer> inIt = now.rows.get(row);
        return inIt.subList(inIt.indexOf(number) + 1, inIt.size()).size();
    }

    int launchDay(int number) {
        Boat boat = now.fleet.get(number);
        if (boat == null) {
            return UNKNOWN;
        }
        if (rowOf(number) == NONE) {
            return NONE;
        }
        for (int day = now.day; day <= now.day + 200; day++) {
            boolean worked = boat.work - (day - now.day) <= 0;
            int lifts = day == now.day ? liftsLeft() : now.settings[1];
            if (worked && lifts > 0 && tideAt(day) >= boat.draft && now.settings[2] >= boat.weight) {
                return day;
            }
        }
        return NONE;
    }

    int bestRow(int number) {
        Boat boat = now.fleet.get(number);
        if (boat == null) {
            return UNKNOWN;
        }
        for (int left = boat.length + 1; left <= 60; left++) {
            for (int row = 0; row < 4; row++) {
                if (row != rowOf(number) && now.metres[row] - taken(row) == left) {
                    return row;
                }
            }
        }
        return NONE;
    }

    int count(int what) {
        switch (what) {
            case 0: return now.day;
            case 1: return tideAt(now.day);
            case 2: return liftsLeft();
            case 3: return now.fleet.size();
            case 4: return now.rows.stream().mapToInt(List::size).sum();
            case 5: return (int) now.fleet.values().stream().filter(b -> b.work != 0).count();
            case 6: return now.liftDays.size();
            case 7: return now.launches;
            case 8: return masts(0);
            case 9: return masts(1);
            case 10: return now.settings[0];
            case 11: return now.settings[1];
            case 12: return now.settings[2];
            case 13: return history.size();
            case 14: return text.length();
            default: return BAD_VALUE;
        }
    }
}
