/** A hall of cells with crowds, ropes, doors and guards; see README.md. */
public final class RopedHalls {
    public static final int NO_SUCH = -1, BAD_VALUE = -2, BAD_TEXT = -3, TOO_MANY = -4, NOT_POSSIBLE = -5, NONE = -6;

    private static final int COLUMNS = 7, ROWS = 5, CELLS = COLUMNS * ROWS;
    private static final int SIDES = 2, SIDE_RIGHT = 0, EDGES = SIDES * CELLS, MOST_ROPES = 24;
    private static final int ABOVE = 0, LEFT = 1, RIGHT = 2, BELOW = 3, WAYS = 4;
    private static final int DOORS = 4, MOST_RATE = 9, NO_GUARD = -1;
    private static final int FIRST_ROOM = 6, MOST_PEOPLE = 20;
    private static final int MOST_MINUTES_A_CALL = 99, MOST_MINUTES = 9999, FORECAST_MINUTES = 400;
    private static final int PAD_LENGTH = 60, CHARACTERS_A_CALL = 8;
    private static final int HISTORY = 6, SLOTS = 2;

    private final Hall hall = new Hall();
    private final Routes routes = new Routes();
    private final Minute minute = new Minute();
    private final Forecast forecast = new Forecast();
    private final Pad pad = new Pad();
    private final Hall[] history = new Hall[HISTORY];
    private final Hall[] slots = new Hall[SLOTS];
    private final boolean[] isSaved = new boolean[SLOTS];
    private int changes;
    private int newest;

    // Every row is made here, once: the calls themselves make no objects.
    public RopedHalls() {
        for (int i = 0; i < HISTORY; i++) {
            history[i] = new Hall();
        }
        for (int i = 0; i < SLOTS; i++) {
            slots[i] = new Hall();
        }
    }

    // ---- changes

    public int setRoom(int people) {
        if (people < 1 || people > MOST_PEOPLE) {
            return BAD_VALUE;
        }
        if (hall.fullestCell() > people) {
            return NOT_POSSIBLE;
        }
        remember();
        int before = hall.room;
        hall.room = people;
        return before;
    }

    public int rope(int cell, int side, boolean hangs) {
        if (!isCell(cell)) {
            return NO_SUCH;
        }
        if (!isSide(side)) {
            return BAD_VALUE;
        }
        int edge = edgeAt(cell, side);
        if (!isEdge(edge) || hall.ropes[edge] == hangs) {
            return NOT_POSSIBLE;
        }
        if (hangs && hall.ropeCount() >= MOST_ROPES) {
            return TOO_MANY;
        }
        remember();
        hall.ropes[edge] = hangs;
        return hall.ropeCount();
    }

    public int door(int door, int cell, int rate) {
        if (!isDoor(door) || !isCell(cell)) {
            return NO_SUCH;
        }
        if (rate < 1 || rate > MOST_RATE) {
            return BAD_VALUE;
        }
        remember();
        int before = hall.doorCell[door];
        hall.doorCell[door] = cell;
        hall.doorRate[door] = rate;
        return before;
    }

    public int open(int door, boolean isOpen) {
        if (!isDoor(door)) {
            return NO_SUCH;
        }
        if (hall.doorOpen[door] == isOpen) {
            return NOT_POSSIBLE;
        }
        remember();
        hall.doorOpen[door] = isOpen;
        return Integer.bitCount(hall.openDoors());
    }

    public int guard(int cell, int door) {
        if (!isCell(cell)) {
            return NO_SUCH;
        }
        if (door != NO_GUARD && !isDoor(door)) {
            return BAD_VALUE;
        }
        remember();
        hall.guards[cell] = door;
        routes.find(hall);
        return routes.goalOf(cell);
    }

    public int enter(int cell, int many) {
        if (!isCell(cell)) {
            return NO_SUCH;
        }
        if (many < 1 || many > MOST_PEOPLE) {
            return BAD_VALUE;
        }
        if (hall.people[cell] + many > hall.room) {
            return TOO_MANY;
        }
        remember();
        hall.letIn(cell, many);
        return hall.people[cell];
    }

    public int read() {
        if (pad.firstFault() != NONE) {
            return BAD_TEXT;
        }
        remember();
        int before = hall.cameIn;
        pad.letCrowdsIn(hall);
        pad.length = 0;
        return hall.cameIn - before;
    }

    public int pass(int minutes) {
        if (minutes < 1 || minutes > MOST_MINUTES_A_CALL) {
            return BAD_VALUE;
        }
        if (hall.minutes + minutes > MOST_MINUTES) {
            return TOO_MANY;
        }
        remember();
        // One finding serves all the minutes: no minute changes ropes, doors or guards.
        routes.find(hall);
        int out = 0;
        for (int i = 0; i < minutes; i++) {
            out += minute.run(hall, routes);
        }
        return out;
    }

    // ---- what there is; nothing changes

    public int cell(int cell, int what) {
        if (!isCell(cell)) {
            return NO_SUCH;
        }
        routes.find(hall);
        switch (what) {
            case 0: return hall.people[cell];
            case 1: return routes.goalOf(cell);
            case 2: return routes.stepsToGoal(cell);
            case 3: return routes.nextOf(cell);
            case 4: return hall.guards[cell] == NO_GUARD ? NONE : hall.guards[cell];
            case 5: return hall.ropesAround(cell);
            default: return BAD_VALUE;
        }
    }

    public int doorOf(int door, int what) {
        if (!isDoor(door)) {
            return NO_SUCH;
        }
        routes.find(hall);
        switch (what) {
            case 0: return hall.doorCell[door];
            case 1: return hall.doorRate[door];
            case 2: return hall.doorOpen[door] ? 1 : 0;
            case 3: return hall.doorOut[door];
            case 4: return routes.cellsWithGoal(door);
            case 5: return routes.peopleWithGoal(hall, door);
            default: return BAD_VALUE;
        }
    }

    public int count(int what) {
        switch (what) {
            case 0: return hall.room;
            case 1: return hall.minutes;
            case 2: return hall.peopleInside();
            case 3: return hall.cameIn;
            case 4: return hall.peopleOut();
            case 5: return hall.waited;
            case 6: return hall.jams;
            case 7: return hall.ropeCount();
            case 8: return hall.openDoors();
            case 9: return strandedNow();
            case 10: return hall.unevenness();
            case 11: return hall.guardCount();
            case 12: return pad.length;
            case 13: return changes;
            default: return BAD_VALUE;
        }
    }

    public int distance(int cell, int door) {
        if (!isCell(cell) || !isDoor(door)) {
            return NO_SUCH;
        }
        routes.find(hall);
        return routes.stepsTo(door, cell);
    }

    // ---- what if; nothing changes

    public int untilOut() {
        forecast.startFrom(hall);
        return forecast.runUntilOut();
    }

    public int ifRope(int cell, int side, int what) {
        if (!isCell(cell)) {
            return NO_SUCH;
        }
        if (!isSide(side) || what < 0 || what > 2) {
            return BAD_VALUE;
        }
        int edge = edgeAt(cell, side);
        if (!isEdge(edge)) {
            return NOT_POSSIBLE;
        }
        forecast.startWithRopeTurned(hall, edge);
        if (what == 2) {
            return forecast.stranded();
        }
        int until = forecast.runUntilOut();
        return what == 0 ? until : forecast.unevenness();
    }

    public int bestRope(int what) {
        if (what < 0 || what > 2) {
            return BAD_VALUE;
        }
        int strandedBefore = strandedNow();
        int bestEdge = NONE;
        int bestUneven = NONE;
        int bestUntil = NONE;
        for (int edge = 0; edge < EDGES; edge++) {
            if (!canHang(edge)) {
                continue;
            }
            forecast.startWithRopeTurned(hall, edge);
            if (forecast.stranded() > strandedBefore) {
                continue;
            }
            int until = forecast.runUntilOut();
            int uneven = forecast.unevenness();
            // Only a better one takes the place, so that of several the lowest edge stays.
            if (until != NONE && (bestEdge == NONE || uneven < bestUneven
                    || (uneven == bestUneven && until < bestUntil))) {
                bestEdge = edge;
                bestUneven = uneven;
                bestUntil = until;
            }
        }
        return what == 0 ? bestEdge : what == 1 ? bestUneven : bestUntil;
    }

    public int waiting() {
        forecast.startFrom(hall);
        forecast.runUntilOut();
        return forecast.waited() - hall.waited;
    }

    // ---- texts

    public int put(long characters) {
        int many = charactersIn(characters);
        if (many < 1) {
            return BAD_VALUE;
        }
        if (pad.length + many > PAD_LENGTH) {
            return TOO_MANY;
        }
        for (int i = many - 1; i >= 0; i--) {
            pad.append((int) (characters >>> (8 * i)) & 255);
        }
        return pad.length;
    }

    public int wipe() {
        int before = pad.length;
        pad.length = 0;
        return before;
    }

    public int fault() {
        return pad.firstFault();
    }

    // ---- undo, saving

    public int undo() {
        if (changes < 1) {
            return NOT_POSSIBLE;
        }
        copyHall(recorded(newest), hall);
        newest = (newest + HISTORY - 1) % HISTORY;
        changes--;
        return changes;
    }

    public int save(int slot) {
        if (slot < 0 || slot >= SLOTS) {
            return BAD_VALUE;
        }
        copyHall(hall, slots[slot]);
        isSaved[slot] = true;
        return hall.peopleInside();
    }

    public int restore(int slot) {
        if (slot < 0 || slot >= SLOTS) {
            return BAD_VALUE;
        }
        if (!isSaved[slot]) {
            return NOT_POSSIBLE;
        }
        remember();
        copyHall(slots[slot], hall);
        return hall.peopleInside();
    }

    // ---- what the calls above share

    /** Records the state ahead of a change; with a full history its place is the oldest one's. */
    private void remember() {
        newest = (newest + 1) % HISTORY;
        copyHall(hall, recorded(newest));
        changes = Math.min(changes + 1, HISTORY);
    }

    private Hall recorded(int place) {
        return place >= 0 && place < HISTORY ? history[place] : null;
    }

    private int strandedNow() {
        routes.find(hall);
        return routes.stranded(hall);
    }

    private boolean canHang(int edge) {
        return isEdge(edge) && edgeAt(edge / SIDES, edge % SIDES) == edge && !hall.ropes[edge];
    }

    private static void copyHall(Hall from, Hall to) {
        if (from != null && to != null) {
            to.copyFrom(from);
        }
    }

    private static boolean isCell(int cell) {
        return cell >= 0 && cell < CELLS;
    }

    private static boolean isDoor(int door) {
        return door >= 0 && door < DOORS;
    }

    private static boolean isSide(int side) {
        return side >= 0 && side < SIDES;
    }

    private static boolean isEdge(int edge) {
        return edge >= 0 && edge < EDGES;
    }

    /** The cell beside a cell, one way; NONE where the hall ends. */
    private static int beside(int cell, int way) {
        switch (way) {
            case ABOVE: return cell >= COLUMNS ? cell - COLUMNS : NONE;
            case LEFT: return cell % COLUMNS > 0 ? cell - 1 : NONE;
            case RIGHT: return cell % COLUMNS < COLUMNS - 1 ? cell + 1 : NONE;
            case BELOW: return cell < CELLS - COLUMNS ? cell + COLUMNS : NONE;
            default: return NONE;
        }
    }

    /** The edge between a cell and the one beside it, 2 times the lower cell and the side; NONE where the hall ends. */
    private static int edgeTowards(int cell, int way) {
        int other = beside(cell, way);
        if (other == NONE) {
            return NONE;
        }
        int side = way == LEFT || way == RIGHT ? SIDE_RIGHT : 1 - SIDE_RIGHT;
        return SIDES * Math.min(cell, other) + side;
    }

    private static int edgeAt(int cell, int side) {
        return edgeTowards(cell, side == SIDE_RIGHT ? RIGHT : BELOW);
    }

    /** How many characters a number for the pad holds; 0 if it cannot be put. */
    private static int charactersIn(long characters) {
        for (int i = 0; i < CHARACTERS_A_CALL; i++) {
            long rest = characters >>> (8 * i);
            if (rest == 0) {
                return i;
            }
            int code = (int) rest & 255;
            if (code < 33 || code > 126) {
                return 0;
            }
        }
        return CHARACTERS_A_CALL;
    }

    /** All that undo and restore bring back. */
    private static final class Hall {
        int room = FIRST_ROOM;
        int minutes;
        int cameIn;
        int waited;
        int jams;
        final int[] people = new int[CELLS];
        final int[] guards = new int[CELLS];
        final boolean[] ropes = new boolean[EDGES];
        final int[] doorCell = {0, 6, 28, 34};
        final int[] doorRate = {1, 1, 1, 1};
        final boolean[] doorOpen = {true, false, false, true};
        final int[] doorOut = new int[DOORS];

        Hall() {
            for (int cell = 0; cell < CELLS; cell++) {
                guards[cell] = NO_GUARD;
            }
        }

        void copyFrom(Hall other) {
            room = other.room;
            minutes = other.minutes;
            cameIn = other.cameIn;
            waited = other.waited;
            jams = other.jams;
            for (int cell = 0; cell < CELLS; cell++) {
                people[cell] = other.people[cell];
                guards[cell] = other.guards[cell];
            }
            for (int edge = 0; edge < EDGES; edge++) {
                ropes[edge] = other.ropes[edge];
            }
            for (int door = 0; door < DOORS; door++) {
                doorCell[door] = other.doorCell[door];
                doorRate[door] = other.doorRate[door];
                doorOpen[door] = other.doorOpen[door];
                doorOut[door] = other.doorOut[door];
            }
        }

        void letIn(int cell, int many) {
            if (isCell(cell)) {
                people[cell] += many;
                cameIn += many;
            }
        }

        int roomIn(int cell) {
            return isCell(cell) ? room - people[cell] : 0;
        }

        int fullestCell() {
            int most = 0;
            for (int cell = 0; cell < CELLS; cell++) {
                most = Math.max(most, people[cell]);
            }
            return most;
        }

        int peopleInside() {
            int sum = 0;
            for (int cell = 0; cell < CELLS; cell++) {
                sum += people[cell];
            }
            return sum;
        }

        int peopleOut() {
            int sum = 0;
            for (int door = 0; door < DOORS; door++) {
                sum += doorOut[door];
            }
            return sum;
        }

        int ropeCount() {
            int sum = 0;
            for (int edge = 0; edge < EDGES; edge++) {
                sum += ropes[edge] ? 1 : 0;
            }
            return sum;
        }

        int guardCount() {
            int sum = 0;
            for (int cell = 0; cell < CELLS; cell++) {
                sum += guards[cell] == NO_GUARD ? 0 : 1;
            }
            return sum;
        }

        int openDoors() {
            int set = 0;
            for (int door = 0; door < DOORS; door++) {
                set |= doorOpen[door] ? 1 << door : 0;
            }
            return set;
        }

        /** With one open door the most are the fewest, so that only the case of none has to be told apart. */
        int unevenness() {
            int most = NONE;
            int fewest = NONE;
            for (int door = 0; door < DOORS; door++) {
                if (doorOpen[door]) {
                    most = most == NONE ? doorOut[door] : Math.max(most, doorOut[door]);
                    fewest = fewest == NONE ? doorOut[door] : Math.min(fewest, doorOut[door]);
                }
            }
            return most - fewest;
        }

        int ropesAround(int cell) {
            int set = 0;
            for (int way = 0; way < WAYS; way++) {
                int edge = edgeTowards(cell, way);
                set |= isEdge(edge) && ropes[edge] ? 1 << way : 0;
            }
            return set;
        }

        /** The cell to which one can step; NONE where the hall ends, and behind a rope. */
        int stepFrom(int cell, int way) {
            int edge = edgeTowards(cell, way);
            return !isEdge(edge) || ropes[edge] ? NONE : beside(cell, way);
        }
    }

    /** Distances, goals, next cells and turns, as they follow from the ropes, doors and guards of a hall. */
    private static final class Routes {
        private final int[] steps = new int[DOORS * CELLS];
        private final int[] queue = new int[CELLS];
        private final int[] goals = new int[CELLS];
        private final int[] nexts = new int[CELLS];
        private final int[] turns = new int[CELLS];
        private int turnCount;

        void find(Hall hall) {
            for (int door = 0; door < DOORS; door++) {
                measureFrom(hall, door);
            }
            for (int cell = 0; cell < CELLS; cell++) {
                goals[cell] = chooseGoal(hall, cell);
                nexts[cell] = chooseNext(hall, cell);
            }
            orderTurns();
        }

        int stepsTo(int door, int cell) {
            return isDoor(door) && isCell(cell) ? steps[door * CELLS + cell] : NONE;
        }

        int goalOf(int cell) {
            return isCell(cell) ? goals[cell] : NONE;
        }

        int nextOf(int cell) {
            return isCell(cell) ? nexts[cell] : NONE;
        }

        int stepsToGoal(int cell) {
            return stepsTo(goalOf(cell), cell);
        }

        int turnsAMinute() {
            return turnCount;
        }

        int cellAtTurn(int turn) {
            return isCell(turn) ? turns[turn] : NONE;
        }

        int cellsWithGoal(int door) {
            int sum = 0;
            for (int cell = 0; cell < CELLS; cell++) {
                sum += goals[cell] == door ? 1 : 0;
            }
            return sum;
        }

        int peopleWithGoal(Hall hall, int door) {
            int sum = 0;
            for (int cell = 0; cell < CELLS; cell++) {
                sum += goals[cell] == door ? hall.people[cell] : 0;
            }
            return sum;
        }

        int stranded(Hall hall) {
            return peopleWithGoal(hall, NONE);
        }

        private void measureFrom(Hall hall, int door) {
            int base = door * CELLS;
            for (int cell = 0; cell < CELLS; cell++) {
                steps[base + cell] = NONE;
            }
            int start = hall.doorCell[door];
            if (!isCell(start)) {
                return;
            }
            steps[base + start] = 0;
            queue[0] = start;
            int queued = 1;
            for (int head = 0; head < queued && head < CELLS; head++) {
                int cell = queue[head];
                for (int way = 0; way < WAYS; way++) {
                    int other = hall.stepFrom(cell, way);
                    if (isCell(other) && queued < CELLS && steps[base + other] == NONE) {
                        steps[base + other] = stepsTo(door, cell) + 1;
                        queue[queued] = other;
                        queued++;
                    }
                }
            }
        }

        private int chooseGoal(Hall hall, int cell) {
            int sentTo = hall.guards[cell];
            if (isDoor(sentTo) && hall.doorOpen[sentTo] && stepsTo(sentTo, cell) != NONE) {
                return sentTo;
            }
            int goal = NONE;
            for (int door = 0; door < DOORS; door++) {
                int far = stepsTo(door, cell);
                if (hall.doorOpen[door] && far != NONE && (goal == NONE || far < stepsTo(goal, cell))) {
                    goal = door;
                }
            }
            return goal;
        }

        private int chooseNext(Hall hall, int cell) {
            int far = stepsToGoal(cell);
            if (far < 1) {
                return NONE;
            }
            for (int way = 0; way < WAYS; way++) {
                int other = hall.stepFrom(cell, way);
                if (other != NONE && stepsTo(goalOf(cell), other) == far - 1) {
                    return other;
                }
            }
            return NONE;
        }

        private void orderTurns() {
            turnCount = 0;
            for (int far = 1; far < CELLS; far++) {
                for (int cell = 0; cell < CELLS; cell++) {
                    if (stepsToGoal(cell) == far && turnCount < CELLS) {
                        turns[turnCount] = cell;
                        turnCount++;
                    }
                }
            }
        }
    }

    /** What happens in a minute. */
    private static final class Minute {
        private final int[] arrived = new int[CELLS];

        /** Lets a minute pass, and returns how many go out in it. */
        int run(Hall hall, Routes routes) {
            hall.minutes++;
            int out = 0;
            for (int door = 0; door < DOORS; door++) {
                out += letOut(hall, door);
            }
            for (int cell = 0; cell < CELLS; cell++) {
                arrived[cell] = 0;
            }
            for (int turn = 0; turn < routes.turnsAMinute(); turn++) {
                int cell = routes.cellAtTurn(turn);
                move(hall, cell, routes.nextOf(cell));
            }
            return out;
        }

        private static int letOut(Hall hall, int door) {
            int cell = hall.doorCell[door];
            if (!hall.doorOpen[door] || !isCell(cell)) {
                return 0;
            }
            int many = Math.min(hall.doorRate[door], hall.people[cell]);
            hall.people[cell] -= many;
            hall.doorOut[door] += many;
            return many;
        }

        private void move(Hall hall, int cell, int next) {
            if (!isCell(cell) || !isCell(next)) {
                return;
            }
            int ready = hall.people[cell] - arrived[cell];
            int going = Math.min(ready, hall.roomIn(next));
            hall.people[cell] -= going;
            hall.people[next] += going;
            arrived[next] += going;
            if (going < ready) {
                hall.jams++;
                hall.waited += ready - going;
            }
        }
    }

    /** A second hall, in which it is tried out what would be. */
    private static final class Forecast {
        private final Hall trial = new Hall();
        private final Routes routes = new Routes();
        private final Minute minute = new Minute();

        void startFrom(Hall hall) {
            trial.copyFrom(hall);
            routes.find(trial);
        }

        void startWithRopeTurned(Hall hall, int edge) {
            trial.copyFrom(hall);
            if (isEdge(edge)) {
                trial.ropes[edge] = !trial.ropes[edge];
            }
            routes.find(trial);
        }

        /** Lets minutes pass until all are out who can come to an open door, and returns how many; NONE behind 400. */
        int runUntilOut() {
            int left = trial.peopleInside() - routes.stranded(trial);
            for (int minutes = 0; minutes < FORECAST_MINUTES; minutes++) {
                if (left == 0) {
                    return minutes;
                }
                left -= minute.run(trial, routes);
            }
            return left == 0 ? FORECAST_MINUTES : NONE;
        }

        int stranded() {
            return routes.stranded(trial);
        }

        int unevenness() {
            return trial.unevenness();
        }

        int waited() {
            return trial.waited;
        }
    }

    /** The text of the crowds, and how it is read. */
    private static final class Pad {
        private static final int COLUMN = 0, ROW = 1, COLON = 2, MANY = 3, BEHIND_1 = 4, BEHIND_2 = 5, BEHIND_MANY = 6;

        int length;
        private final int[] codes = new int[PAD_LENGTH];

        void append(int code) {
            if (length >= 0 && length < PAD_LENGTH) {
                codes[length] = code;
                length++;
            }
        }

        int firstFault() {
            int place = COLUMN;
            for (int i = 0; i < length; i++) {
                place = placeBehind(place, codeAt(i));
                if (place == NONE) {
                    return i;
                }
            }
            return place >= BEHIND_1 ? NONE : length;
        }

        /** Lets the crowds of a text without a fault come in. */
        void letCrowdsIn(Hall hall) {
            int start = 0;
            for (int end = 1; end <= length; end++) {
                if (end == length || codeAt(end) == ',') {
                    letCrowdIn(hall, start, end);
                    start = end + 1;
                }
            }
        }

        private void letCrowdIn(Hall hall, int start, int end) {
            int cell = codeAt(start) - 'a' + COLUMNS * (codeAt(start + 1) - '1');
            int many = codeAt(start + 3) - '0';
            if (start + 4 < end) {
                many = 10 * many + codeAt(start + 4) - '0';
            }
            hall.letIn(cell, Math.min(many, hall.roomIn(cell)));
        }

        /** Codes start at 33, so that 0 stands for no character. */
        private int codeAt(int i) {
            return i >= 0 && i < length && i < PAD_LENGTH ? codes[i] : 0;
        }

        /** What can stand behind a character at its place; NONE if it cannot stand there itself. */
        private static int placeBehind(int place, int code) {
            switch (place) {
                case COLUMN: return code >= 'a' && code <= 'g' ? ROW : NONE;
                case ROW: return code >= '1' && code <= '5' ? COLON : NONE;
                case COLON: return code == ':' ? MANY : NONE;
                case MANY: return placeBehindFirstDigit(code);
                default: break;
            }
            if (code == ',') {
                return COLUMN;
            }
            // The numbers end at 20: behind a 1 any digit can stand, behind a 2 only the 0.
            boolean isSecondDigit = place == BEHIND_1 ? code >= '0' && code <= '9' : place == BEHIND_2 && code == '0';
            return isSecondDigit ? BEHIND_MANY : NONE;
        }

        private static int placeBehindFirstDigit(int code) {
            if (code < '1' || code > '9') {
                return NONE;
            }
            return code == '1' ? BEHIND_1 : code == '2' ? BEHIND_2 : BEHIND_MANY;
        }
    }
}
