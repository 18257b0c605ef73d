import java.util.ArrayDeque;
import java.util.ArrayList;
import java.util.Arrays;
import java.util.HashSet;
import java.util.List;
import java.util.Set;
import java.util.regex.Matcher;
import java.util.regex.Pattern;

/** The document once more, written another way and without care for speed, to compare the program with. */
final class Model {
    static final int NO_SUCH = -1, BAD_VALUE = -2, BAD_TEXT = -3, TOO_MANY = -4, NOT_POSSIBLE = -5, NONE = -6;
    private static final Pattern TEXT = Pattern.compile(
            "[a-g][1-5]:(1[0-9]?|20?|[3-9])(,[a-g][1-5]:(1[0-9]?|20?|[3-9]))*");
    private static final int[][] WAYS = {{0, -1}, {-1, 0}, {1, 0}, {0, 1}};

    /** A state; a rope is the set of both of its cells. */
    private static final class State {
        int room = 6;
        int minutes;
        int cameIn;
        int waited;
        int jams;
        int[] people = new int[35];
        Set<Set<Integer>> ropes = new HashSet<>();
        Integer[] guards = new Integer[35];
        int[] at = {0, 6, 28, 34};
        int[] rate = {1, 1, 1, 1};
        boolean[] open = {true, false, false, true};
        int[] out = new int[4];

        State copy() {
            State other = new State();
            other.room = room;
            other.minutes = minutes;
            other.cameIn = cameIn;
            other.waited = waited;
            other.jams = jams;
            other.people = people.clone();
            other.ropes = new HashSet<>(ropes);
            other.guards = guards.clone();
            other.at = at.clone();
            other.rate = rate.clone();
            other.open = open.clone();
            other.out = out.clone();
            return other;
        }

        int inside() {
            return Arrays.stream(people).sum();
        }

        void come(int cell, int many) {
            people[cell] += many;
            cameIn += many;
        }

        int uneven() {
            List<Integer> outs = new ArrayList<>();
            for (int door = 0; door < 4; door++) {
                if (open[door]) {
                    outs.add(out[door]);
                }
            }
            outs.sort(null);
            return outs.size() < 2 ? 0 : outs.get(outs.size() - 1) - outs.get(0);
        }
    }

    /** Distances by making them smaller until none becomes smaller; goals and next cells from them. */
    private static final class Finder {
        static final int FAR = 1000;
        final State state;
        final int[][] far = new int[4][35];

        Finder(State state) {
            this.state = state;
            for (int door = 0; door < 4; door++) {
                Arrays.fill(far[door], FAR);
                far[door][state.at[door]] = 0;
                boolean changed = true;
                while (changed) {
                    changed = false;
                    for (int cell = 0; cell < 35; cell++) {
                        for (int other : around(cell)) {
                            if (far[door][other] + 1 < far[door][cell]) {
                                far[door][cell] = far[door][other] + 1;
                                changed = true;
                            }
                        }
                    }
                }
            }
        }

        List<Integer> around(int cell) {
            List<Integer> list = new ArrayList<>();
            for (int[] way : WAYS) {
                int x = cell % 7 + way[0];
                int y = cell / 7 + way[1];
                if (x >= 0 && x < 7 && y >= 0 && y < 5 && !state.ropes.contains(Set.of(cell, 7 * y + x))) {
                    list.add(7 * y + x);
                }
            }
            return list;
        }

        boolean usable(int door, int cell) {
            return state.open[door] && far[door][cell] < FAR;
        }

        int goal(int cell) {
            if (state.guards[cell] != null && usable(state.guards[cell], cell)) {
                return state.guards[cell];
            }
            int best = NONE;
            for (int door = 3; door >= 0; door--) {
                if (usable(door, cell) && (best == NONE || far[door][cell] <= far[best][cell])) {
                    best = door;
                }
            }
            return best;
        }

        int toGoal(int cell) {
            return goal(cell) == NONE ? NONE : far[goal(cell)][cell];
        }

        int next(int cell) {
            int goal = goal(cell);
            if (goal != NONE) {
                for (int other : around(cell)) {
                    if (far[goal][other] == far[goal][cell] - 1) {
                        return other;
                    }
                }
            }
            return NONE;
        }

        int stranded() {
            int many = 0;
            for (int cell = 0; cell < 35; cell++) {
                many += goal(cell) == NONE ? state.people[cell] : 0;
            }
            return many;
        }
    }

    private State now = new State();
    private final ArrayDeque<State> history = new ArrayDeque<>();
    private final State[] slots = new State[2];
    private String pad = "";

    private void remember() {
        history.addLast(now.copy());
        if (history.size() > 6) {
            history.removeFirst();
        }
    }

    /** The cells with turns, in their order, and where each of them goes. */
    private static List<int[]> turns(Finder map) {
        List<int[]> list = new ArrayList<>();
        for (int cell = 0; cell < 35; cell++) {
            if (map.next(cell) != NONE) {
                list.add(new int[] {cell, map.next(cell), map.toGoal(cell)});
            }
        }
        list.sort((a, b) -> a[2] != b[2] ? a[2] - b[2] : a[0] - b[0]);
        return list;
    }

    /** People go one by one; in each cell those who came in this minute are told apart from those who were there. */
    private static int minute(State state, List<int[]> turns) {
        state.minutes++;
        int out = 0;
        for (int door = 0; door < 4; door++) {
            for (int i = 0; state.open[door] && i < state.rate[door]; i++) {
                if (state.people[state.at[door]] > 0) {
                    state.people[state.at[door]]--;
                    state.out[door]++;
                    out++;
                }
            }
        }
        int[] were = state.people.clone();
        int[] came = new int[35];
        for (int[] turn : turns) {
            while (were[turn[0]] > 0 && were[turn[1]] + came[turn[1]] < state.room) {
                were[turn[0]]--;
                came[turn[1]]++;
            }
            state.waited += were[turn[0]];
            state.jams += were[turn[0]] > 0 ? 1 : 0;
        }
        for (int cell = 0; cell < 35; cell++) {
            state.people[cell] = were[cell] + came[cell];
        }
        return out;
    }

    private static int runOut(State state) {
        Finder map = new Finder(state);
        List<int[]> turns = turns(map);
        int stranded = map.stranded();
        for (int minutes = 0; minutes <= 400; minutes++) {
            if (state.inside() == stranded) {
                return minutes;
            }
            if (minutes < 400) {
                minute(state, turns);
            }
        }
        return NONE;
    }

    /** Both cells of an edge; null if there is none. */
    private static Set<Integer> edge(int cell, int side) {
        if (side == 0) {
            return cell % 7 == 6 ? null : Set.of(cell, cell + 1);
        }
        return cell / 7 == 4 ? null : Set.of(cell, cell + 7);
    }

    int setRoom(int people) {
        if (people < 1 || people > 20) {
            return BAD_VALUE;
        }
        for (int cell = 0; cell < 35; cell++) {
            if (now.people[cell] > people) {
                return NOT_POSSIBLE;
            }
        }
        remember();
        int before = now.room;
        now.room = people;
        return before;
    }

    int rope(int cell, int side, boolean hangs) {
        if (cell < 0 || cell > 34) {
            return NO_SUCH;
        }
        if (side < 0 || side > 1) {
            return BAD_VALUE;
        }
        Set<Integer> edge = edge(cell, side);
        if (edge == null || now.ropes.contains(edge) == hangs) {
            return NOT_POSSIBLE;
        }
        if (hangs && now.ropes.size() == 24) {
            return TOO_MANY;
        }
        remember();
        if (hangs) {
            now.ropes.add(edge);
        } else {
            now.ropes.remove(edge);
        }
        return now.ropes.size();
    }

    int door(int door, int cell, int rate) {
        if (door < 0 || door > 3 || cell < 0 || cell > 34) {
            return NO_SUCH;
        }
        if (rate < 1 || rate > 9) {
            return BAD_VALUE;
        }
        remember();
        int before = now.at[door];
        now.at[door] = cell;
        now.rate[door] = rate;
        return before;
    }

    int open(int door, boolean isOpen) {
        if (door < 0 || door > 3) {
            return NO_SUCH;
        }
        if (now.open[door] == isOpen) {
            return NOT_POSSIBLE;
        }
        remember();
        now.open[door] = isOpen;
        int many = 0;
        for (boolean one : now.open) {
            many += one ? 1 : 0;
        }
        return many;
    }

    int guard(int cell, int door) {
        if (cell < 0 || cell > 34) {
            return NO_SUCH;
        }
        if (door < -1 || door > 3) {
            return BAD_VALUE;
        }
        remember();
        now.guards[cell] = door < 0 ? null : (Integer) door;
        return new Finder(now).goal(cell);
    }

    int enter(int cell, int many) {
        if (cell < 0 || cell > 34) {
            return NO_SUCH;
        }
        if (many < 1 || many > 20) {
            return BAD_VALUE;
        }
        if (now.people[cell] + many > now.room) {
            return TOO_MANY;
        }
        remember();
        now.come(cell, many);
        return now.people[cell];
    }

    int read() {
        if (fault() != NONE) {
            return BAD_TEXT;
        }
        remember();
        int sum = 0;
        for (String crowd : pad.split(",")) {
            int cell = crowd.charAt(0) - 'a' + 7 * (crowd.charAt(1) - '1');
            int many = Math.min(Integer.parseInt(crowd.substring(3)), now.room - now.people[cell]);
            now.come(cell, many);
            sum += many;
        }
        pad = "";
        return sum;
    }

    int pass(int minutes) {
        if (minutes < 1 || minutes > 99) {
            return BAD_VALUE;
        }
        if (now.minutes + minutes > 9999) {
            return TOO_MANY;
        }
        remember();
        List<int[]> turns = turns(new Finder(now));
        int out = 0;
        for (int i = 0; i < minutes; i++) {
            out += minute(now, turns);
        }
        return out;
    }

    int cell(int cell, int what) {
        if (cell < 0 || cell > 34) {
            return NO_SUCH;
        }
        if (what < 0 || what > 5) {
            return BAD_VALUE;
        }
        Finder map = new Finder(now);
        int ropes = 0;
        for (int way = 0; way < 4; way++) {
            if (now.ropes.contains(Set.of(cell, cell + WAYS[way][0] + 7 * WAYS[way][1]))) {
                ropes += 1 << way;
            }
        }
        int guard = now.guards[cell] == null ? NONE : now.guards[cell];
        return new int[] {now.people[cell], map.goal(cell), map.toGoal(cell), map.next(cell), guard, ropes}[what];
    }

    int doorOf(int door, int what) {
        if (door < 0 || door > 3) {
            return NO_SUCH;
        }
        if (what < 0 || what > 5) {
            return BAD_VALUE;
        }
        Finder map = new Finder(now);
        int cells = 0;
        int people = 0;
        for (int cell = 0; cell < 35; cell++) {
            if (map.goal(cell) == door) {
                cells++;
                people += now.people[cell];
            }
        }
        return new int[] {now.at[door], now.rate[door], now.open[door] ? 1 : 0, now.out[door], cells, people}[what];
    }

    int count(int what) {
        if (what < 0 || what > 13) {
            return BAD_VALUE;
        }
        int out = 0;
        int set = 0;
        int guards = 0;
        for (int door = 0; door < 4; door++) {
            out += now.out[door];
            set += now.open[door] ? 1 << door : 0;
        }
        for (Integer guard : now.guards) {
            guards += guard == null ? 0 : 1;
        }
        return new int[] {now.room, now.minutes, now.inside(), now.cameIn, out, now.waited, now.jams,
            now.ropes.size(), set, new Finder(now).stranded(), now.uneven(), guards, pad.length(), history.size()}[what];
    }

    int distance(int cell, int door) {
        if (cell < 0 || cell > 34 || door < 0 || door > 3) {
            return NO_SUCH;
        }
        int far = new Finder(now).far[door][cell];
        return far == Finder.FAR ? NONE : far;
    }

    int untilOut() {
        return runOut(now.copy());
    }

    int ifRope(int cell, int side, int what) {
        if (cell < 0 || cell > 34) {
            return NO_SUCH;
        }
        if (side < 0 || side > 1 || what < 0 || what > 2) {
            return BAD_VALUE;
        }
        Set<Integer> edge = edge(cell, side);
        if (edge == null) {
            return NOT_POSSIBLE;
        }
        return tryRope(edge)[what];
    }

    /** untilOut() with a rope turned, how uneven it is then, and who can come to no open door. */
    private int[] tryRope(Set<Integer> edge) {
        State state = now.copy();
        if (!state.ropes.remove(edge)) {
            state.ropes.add(edge);
        }
        int stranded = new Finder(state).stranded();
        int until = runOut(state);
        return new int[] {until, state.uneven(), stranded};
    }

    int bestRope(int what) {
        if (what < 0 || what > 2) {
            return BAD_VALUE;
        }
        int before = new Finder(now).stranded();
        List<int[]> found = new ArrayList<>();
        for (int edge = 0; edge < 70; edge++) {
            Set<Integer> cells = edge(edge / 2, edge % 2);
            if (cells != null && !now.ropes.contains(cells)) {
                int[] then = tryRope(cells);
                if (then[2] <= before && then[0] != NONE) {
                    found.add(new int[] {edge, then[1], then[0]});
                }
            }
        }
        found.sort((a, b) -> a[1] != b[1] ? a[1] - b[1] : a[2] != b[2] ? a[2] - b[2] : a[0] - b[0]);
        return found.isEmpty() ? NONE : found.get(0)[what];
    }

    int waiting() {
        State state = now.copy();
        runOut(state);
        return state.waited - now.waited;
    }

    int put(long characters) {
        StringBuilder text = new StringBuilder();
        for (int i = 0; i < 8; i++) {
            text.append((char) (characters >>> (56 - 8 * i) & 255));
        }
        int start = 0;
        while (start < 8 && text.charAt(start) == 0) {
            start++;
        }
        String more = text.substring(start);
        if (more.isEmpty() || !more.chars().allMatch(c -> c >= 33 && c <= 126)) {
            return BAD_VALUE;
        }
        if (pad.length() + more.length() > 60) {
            return TOO_MANY;
        }
        pad += more;
        return pad.length();
    }

    int wipe() {
        int before = pad.length();
        pad = "";
        return before;
    }

    /** A character can stand at its place if the text up to it is the beginning of one without a fault. */
    int fault() {
        for (int i = 1; i <= pad.length(); i++) {
            Matcher matcher = TEXT.matcher(pad.substring(0, i));
            if (!matcher.matches() && !matcher.hitEnd()) {
                return i - 1;
            }
        }
        return TEXT.matcher(pad).matches() ? NONE : pad.length();
    }

    int undo() {
        if (history.isEmpty()) {
            return NOT_POSSIBLE;
        }
        now = history.removeLast();
        return history.size();
    }

    int save(int slot) {
        if (slot < 0 || slot > 1) {
            return BAD_VALUE;
        }
        slots[slot] = now.copy();
        return now.inside();
    }

    int restore(int slot) {
        if (slot < 0 || slot > 1) {
            return BAD_VALUE;
        }
        if (slots[slot] == null) {
            return NOT_POSSIBLE;
        }
        remember();
        now = slots[slot].copy();
        return now.inside();
    }
}
