/** Each promise of the document by itself: ordinary inputs, the edges that the document names, wrong inputs. */
public final class PromisesTest extends Checks {
    public static void main(String[] args) {
        constants();
        newObject();
        newDoorsAndGoals();
        setRoom();
        rope();
        mostRopes();
        door();
        open();
        guard();
        guardWhoCannotSend();
        enter();
        read();
        pass();
        mostMinutes();
        minuteDoors();
        minuteTurns();
        minuteNobodyTwice();
        minuteStranded();
        cell();
        cellNext();
        cellRopes();
        doorOf();
        count();
        countUneven();
        distance();
        untilOut();
        untilOutLimit();
        ifRope();
        ifRopeLimit();
        bestRope();
        bestRopeRules();
        waiting();
        put();
        wipe();
        fault();
        undo();
        undoOfEachChange();
        save();
        restore();
        readme();
        finish();
    }

    private static void constants() {
        part = "constants";
        due("NO_SUCH", RopedHalls.NO_SUCH, -1);
        due("BAD_VALUE", RopedHalls.BAD_VALUE, -2);
        due("BAD_TEXT", RopedHalls.BAD_TEXT, -3);
        due("TOO_MANY", RopedHalls.TOO_MANY, -4);
        due("NOT_POSSIBLE", RopedHalls.NOT_POSSIBLE, -5);
        due("NONE", RopedHalls.NONE, -6);
    }

    private static void newObject() {
        part = "promise 1, new object";
        RopedHalls other = new RopedHalls();
        other.enter(3, 4);
        other.rope(3, 0, true);
        other.guard(3, 1);
        RopedHalls x = new RopedHalls();
        int[] counts = {6, 0, 0, 0, 0, 0, 0, 0, 9, 0, 0, 0, 0, 0};
        for (int what = 0; what < counts.length; what++) {
            due("count(" + what + ")", x.count(what), counts[what]);
        }
        for (int cell = 0; cell < 35; cell++) {
            due("cell(" + cell + ", 0)", x.cell(cell, 0), 0);
            due("cell(" + cell + ", 4)", x.cell(cell, 4), NONE);
            due("cell(" + cell + ", 5)", x.cell(cell, 5), 0);
        }
        due("restore(0)", x.restore(0), NOT_POSSIBLE);
        due("restore(1)", x.restore(1), NOT_POSSIBLE);
        due("undo()", x.undo(), NOT_POSSIBLE);
        due("fault()", x.fault(), 0);
    }

    private static void newDoorsAndGoals() {
        part = "promise 1, doors of a new object";
        RopedHalls x = new RopedHalls();
        int[][] doors = {{0, 1, 1, 0, 20, 0}, {6, 1, 0, 0, 0, 0}, {28, 1, 0, 0, 0, 0}, {34, 1, 1, 0, 15, 0}};
        for (int door = 0; door < 4; door++) {
            for (int what = 0; what < 6; what++) {
                due("doorOf(" + door + ", " + what + ")", x.doorOf(door, what), doors[door][what]);
            }
        }
        for (int cell = 0; cell < 35; cell++) {
            int far = cell % 7 + cell / 7;
            due("cell(" + cell + ", 1)", x.cell(cell, 1), far <= 5 ? 0 : 3);
            due("cell(" + cell + ", 2)", x.cell(cell, 2), Math.min(far, 10 - far));
        }
    }

    private static void setRoom() {
        part = "promise 2, setRoom";
        RopedHalls x = new RopedHalls();
        due("setRoom(20)", x.setRoom(20), 6);
        due("count(0)", x.count(0), 20);
        due("setRoom(1)", x.setRoom(1), 20);
        due("setRoom(1) again", x.setRoom(1), 1);
        due("count(13)", x.count(13), 3);
        for (int people : new int[] {0, 21, -1, Integer.MIN_VALUE, Integer.MAX_VALUE}) {
            due("setRoom(" + people + ")", x.setRoom(people), BAD_VALUE);
        }
        due("count(0)", x.count(0), 1);
        x.setRoom(9);
        x.enter(34, 5);
        due("setRoom(4)", x.setRoom(4), NOT_POSSIBLE);
        due("setRoom(0)", x.setRoom(0), BAD_VALUE);
        due("count(0)", x.count(0), 9);
        due("setRoom(5)", x.setRoom(5), 9);
        due("enter(34, 1)", x.enter(34, 1), TOO_MANY);
        x = new RopedHalls();
        x.enter(0, 3);
        due("setRoom(2)", x.setRoom(2), NOT_POSSIBLE);
        due("setRoom(3)", x.setRoom(3), 6);
    }

    private static void rope() {
        part = "promise 3, rope";
        RopedHalls x = new RopedHalls();
        due("rope(0, 0, true)", x.rope(0, 0, true), 1);
        due("rope(0, 1, true)", x.rope(0, 1, true), 2);
        due("rope(33, 0, true)", x.rope(33, 0, true), 3);
        due("rope(27, 1, true)", x.rope(27, 1, true), 4);
        due("rope(0, 0, true)", x.rope(0, 0, true), NOT_POSSIBLE);
        due("rope(1, 0, false)", x.rope(1, 0, false), NOT_POSSIBLE);
        due("rope(0, 0, false)", x.rope(0, 0, false), 3);
        due("rope(0, 0, false)", x.rope(0, 0, false), NOT_POSSIBLE);
        due("count(7)", x.count(7), 3);
        for (int row = 0; row < 5; row++) {
            due("rope at the right end", x.rope(7 * row + 6, 0, true), NOT_POSSIBLE);
            due("no rope at the right end", x.rope(7 * row + 6, 0, false), NOT_POSSIBLE);
        }
        for (int column = 0; column < 7; column++) {
            due("rope at the lower end", x.rope(28 + column, 1, true), NOT_POSSIBLE);
        }
        for (int cell : NO_CELLS) {
            due("rope(" + cell + ", 9, true)", x.rope(cell, 9, true), NO_SUCH);
        }
        for (int side : new int[] {-1, 2, Integer.MIN_VALUE, Integer.MAX_VALUE}) {
            due("rope(6, " + side + ", true)", x.rope(6, side, true), BAD_VALUE);
        }
        due("count(7)", x.count(7), 3);
    }

    private static void mostRopes() {
        part = "promise 3, 24 ropes";
        RopedHalls x = new RopedHalls();
        for (int i = 0; i < 24; i++) {
            due("rope " + i, x.rope(7 * (i / 6) + i % 6, 0, true), i + 1);
        }
        due("rope(28, 0, true)", x.rope(28, 0, true), TOO_MANY);
        due("rope(0, 1, true)", x.rope(0, 1, true), TOO_MANY);
        due("rope(6, 0, true)", x.rope(6, 0, true), NOT_POSSIBLE);
        due("rope(5, 0, true)", x.rope(5, 0, true), NOT_POSSIBLE);
        due("rope(6, 2, true)", x.rope(6, 2, true), BAD_VALUE);
        due("ifRope(28, 0, 2)", x.ifRope(28, 0, 2), 0);
        due("bestRope(2)", x.bestRope(2), 0);
        due("rope(5, 0, false)", x.rope(5, 0, false), 23);
        due("rope(28, 0, true)", x.rope(28, 0, true), 24);
        due("rope(0, 0, false) with 24", x.rope(0, 0, false), 23);
    }

    private static void door() {
        part = "promise 4, door";
        RopedHalls x = new RopedHalls();
        x.enter(0, 3);
        x.pass(1);
        due("door(0, 17, 9)", x.door(0, 17, 9), 0);
        due("doorOf(0, 0)", x.doorOf(0, 0), 17);
        due("doorOf(0, 1)", x.doorOf(0, 1), 9);
        due("doorOf(0, 2)", x.doorOf(0, 2), 1);
        due("doorOf(0, 3) stays", x.doorOf(0, 3), 1);
        due("door(0, 17, 1)", x.door(0, 17, 1), 17);
        due("door(1, 17, 2)", x.door(1, 17, 2), 6);
        due("doorOf(1, 2)", x.doorOf(1, 2), 0);
        due("door(2, 34, 3)", x.door(2, 34, 3), 28);
        due("door(3, 0, 4)", x.door(3, 0, 4), 34);
        due("distance(34, 2)", x.distance(34, 2), 0);
        due("cell(0, 1)", x.cell(0, 1), 3);
        for (int door : NO_DOORS) {
            due("door(" + door + ", 0, 0)", x.door(door, 0, 0), NO_SUCH);
        }
        for (int cell : NO_CELLS) {
            due("door(0, " + cell + ", 0)", x.door(0, cell, 0), NO_SUCH);
        }
        for (int rate : new int[] {0, 10, -1, Integer.MIN_VALUE, Integer.MAX_VALUE}) {
            due("door(0, 0, " + rate + ")", x.door(0, 0, rate), BAD_VALUE);
        }
        due("doorOf(0, 0)", x.doorOf(0, 0), 17);
        due("doorOf(0, 1)", x.doorOf(0, 1), 1);
    }

    private static void open() {
        part = "promise 5, open";
        RopedHalls x = new RopedHalls();
        due("open(0, true)", x.open(0, true), NOT_POSSIBLE);
        due("open(1, false)", x.open(1, false), NOT_POSSIBLE);
        due("open(1, true)", x.open(1, true), 3);
        due("open(2, true)", x.open(2, true), 4);
        due("count(8)", x.count(8), 15);
        due("cell(6, 1)", x.cell(6, 1), 1);
        due("open(0, false)", x.open(0, false), 3);
        due("open(3, false)", x.open(3, false), 2);
        due("count(8)", x.count(8), 6);
        due("open(1, false)", x.open(1, false), 1);
        due("open(2, false)", x.open(2, false), 0);
        due("cell(28, 1)", x.cell(28, 1), NONE);
        for (int door : NO_DOORS) {
            due("open(" + door + ", true)", x.open(door, true), NO_SUCH);
            due("open(" + door + ", false)", x.open(door, false), NO_SUCH);
        }
        due("count(13)", x.count(13), 6);
    }

    private static void guard() {
        part = "promise 6, guard";
        RopedHalls x = new RopedHalls();
        due("guard(8, 3)", x.guard(8, 3), 3);
        due("cell(8, 2)", x.cell(8, 2), 8);
        due("guard(8, 0)", x.guard(8, 0), 0);
        due("count(11)", x.count(11), 1);
        due("guard(26, 0)", x.guard(26, 0), 0);
        due("count(11)", x.count(11), 2);
        due("guard(26, -1)", x.guard(26, -1), 3);
        due("guard(26, -1) again", x.guard(26, -1), 3);
        due("count(11)", x.count(11), 1);
        due("count(13)", x.count(13), 5);
        due("guard(0, 3)", x.guard(0, 3), 3);
        due("guard(34, 0)", x.guard(34, 0), 0);
        due("count(11)", x.count(11), 3);
        due("cell(34, 2)", x.cell(34, 2), 10);
        due("cell(33, 1) has no guard", x.cell(33, 1), 3);
        for (int cell : NO_CELLS) {
            due("guard(" + cell + ", 9)", x.guard(cell, 9), NO_SUCH);
        }
        for (int door : new int[] {-2, -6, 4, Integer.MIN_VALUE, Integer.MAX_VALUE}) {
            due("guard(8, " + door + ")", x.guard(8, door), BAD_VALUE);
        }
        due("cell(8, 4)", x.cell(8, 4), 0);
    }

    private static void guardWhoCannotSend() {
        part = "promise 6, a guard who cannot send";
        RopedHalls x = new RopedHalls();
        due("guard(8, 1), which is closed", x.guard(8, 1), 0);
        due("cell(8, 4)", x.cell(8, 4), 1);
        x.open(1, true);
        due("cell(8, 1)", x.cell(8, 1), 1);
        x.rope(5, 0, true);
        due("cell(8, 1)", x.cell(8, 1), 1);
        x.rope(6, 1, true);
        due("cell(8, 1) with no way to 1", x.cell(8, 1), 0);
        due("guard(6, 3) with no way to 3", x.guard(6, 3), 1);
        x.open(1, false);
        due("guard(6, 3) with no way to any", x.guard(6, 3), NONE);
        due("guard(6, -1)", x.guard(6, -1), NONE);
        due("guard(6, 1)", x.guard(6, 1), NONE);
        due("cell(6, 4)", x.cell(6, 4), 1);
    }

    private static void enter() {
        part = "promise 7, enter";
        RopedHalls x = new RopedHalls();
        due("enter(0, 1)", x.enter(0, 1), 1);
        due("enter(0, 5)", x.enter(0, 5), 6);
        due("enter(0, 1)", x.enter(0, 1), TOO_MANY);
        due("enter(34, 7)", x.enter(34, 7), TOO_MANY);
        due("enter(34, 6)", x.enter(34, 6), 6);
        due("count(2)", x.count(2), 12);
        due("count(3)", x.count(3), 12);
        x.setRoom(20);
        due("enter(1, 20)", x.enter(1, 20), 20);
        for (int cell : NO_CELLS) {
            due("enter(" + cell + ", 0)", x.enter(cell, 0), NO_SUCH);
        }
        for (int many : new int[] {0, 21, -1, Integer.MIN_VALUE, Integer.MAX_VALUE}) {
            due("enter(1, " + many + ")", x.enter(1, many), BAD_VALUE);
        }
        due("count(3)", x.count(3), 32);
        due("count(13)", x.count(13), 5);
    }

    private static void read() {
        part = "promise 8, read";
        RopedHalls x = new RopedHalls();
        due("read()", x.read(), BAD_TEXT);
        type(x, "a1:4,g5:20,a1:3,c2:10,a1:1,b1:2");
        due("count(12)", x.count(12), 31);
        due("read()", x.read(), 20);
        due("count(12)", x.count(12), 0);
        due("cell(0, 0)", x.cell(0, 0), 6);
        due("cell(34, 0)", x.cell(34, 0), 6);
        due("cell(9, 0)", x.cell(9, 0), 6);
        due("cell(1, 0)", x.cell(1, 0), 2);
        due("count(3)", x.count(3), 20);
        due("count(13)", x.count(13), 1);
        due("read()", x.read(), BAD_TEXT);
        type(x, "a1:9,c2:1");
        due("read() into full cells", x.read(), 0);
        due("count(13)", x.count(13), 2);
        type(x, "e4:2,");
        due("read()", x.read(), BAD_TEXT);
        due("count(12)", x.count(12), 5);
        due("count(13)", x.count(13), 2);
        type(x, "e4:1");
        due("read()", x.read(), 3);
        due("cell(25, 0)", x.cell(25, 0), 3);
        x.setRoom(20);
        type(x, "f3:19,d5:20,b4:2");
        due("read()", x.read(), 41);
        due("cell(19, 0)", x.cell(19, 0), 19);
        due("cell(31, 0)", x.cell(31, 0), 20);
        due("cell(22, 0)", x.cell(22, 0), 2);
    }

    private static void pass() {
        part = "promise 9, pass";
        RopedHalls x = new RopedHalls();
        due("pass(1)", x.pass(1), 0);
        due("count(1)", x.count(1), 1);
        x.enter(17, 3);
        due("pass(5)", x.pass(5), 0);
        due("cell(0, 0)", x.cell(0, 0), 3);
        due("pass(2)", x.pass(2), 2);
        due("pass(99)", x.pass(99), 1);
        due("count(1)", x.count(1), 107);
        due("count(4)", x.count(4), 3);
        due("count(13)", x.count(13), 5);
        for (int minutes : new int[] {0, 100, -1, Integer.MIN_VALUE, Integer.MAX_VALUE}) {
            due("pass(" + minutes + ")", x.pass(minutes), BAD_VALUE);
        }
        due("count(1)", x.count(1), 107);
    }

    private static void mostMinutes() {
        part = "promise 9, 9999 minutes";
        RopedHalls x = new RopedHalls();
        for (int i = 0; i < 100; i++) {
            x.pass(99);
        }
        due("count(1)", x.count(1), 9900);
        x.pass(98);
        due("pass(2)", x.pass(2), TOO_MANY);
        due("pass(100)", x.pass(100), BAD_VALUE);
        due("pass(1)", x.pass(1), 0);
        due("count(1)", x.count(1), 9999);
        due("pass(1)", x.pass(1), TOO_MANY);
        due("pass(0)", x.pass(0), BAD_VALUE);
        x.enter(0, 6);
        due("untilOut()", x.untilOut(), 6);
        due("undo()", x.undo(), 5);
        due("undo()", x.undo(), 4);
        due("pass(1)", x.pass(1), 0);
    }

    private static void minuteDoors() {
        part = "a minute, doors";
        RopedHalls x = new RopedHalls();
        x.door(0, 0, 3);
        x.enter(0, 5);
        due("pass(1)", x.pass(1), 3);
        due("pass(1)", x.pass(1), 2);
        due("pass(1)", x.pass(1), 0);
        due("doorOf(0, 3)", x.doorOf(0, 3), 5);
        x.door(3, 0, 2);
        x.door(0, 0, 1);
        x.enter(0, 4);
        due("pass(1) by both doors", x.pass(1), 3);
        due("doorOf(3, 3)", x.doorOf(3, 3), 2);
        due("pass(1) by the lower one", x.pass(1), 1);
        due("doorOf(0, 3)", x.doorOf(0, 3), 7);
        due("doorOf(3, 3)", x.doorOf(3, 3), 2);
        x.enter(6, 2);
        due("pass(1), the door 1 is closed", x.pass(1), 0);
        due("cell(5, 0)", x.cell(5, 0), 2);
        part = "a minute, a guard at a door";
        x = new RopedHalls();
        x.enter(0, 3);
        x.guard(0, 3);
        due("pass(1)", x.pass(1), 1);
        due("cell(0, 0)", x.cell(0, 0), 0);
        due("cell(1, 0)", x.cell(1, 0), 2);
        due("pass(1)", x.pass(1), 0);
        due("cell(0, 0)", x.cell(0, 0), 2);
    }

    private static void minuteTurns() {
        part = "a minute, turns by distance";
        RopedHalls x = new RopedHalls();
        x.enter(2, 6);
        x.enter(1, 6);
        x.enter(0, 6);
        due("pass(1)", x.pass(1), 1);
        due("cell(0, 0)", x.cell(0, 0), 6);
        due("cell(1, 0)", x.cell(1, 0), 6);
        due("cell(2, 0)", x.cell(2, 0), 5);
        due("count(5)", x.count(5), 10);
        due("count(6)", x.count(6), 2);
        part = "a minute, turns by number";
        x = new RopedHalls();
        x.enter(7, 6);
        x.enter(1, 6);
        x.enter(0, 6);
        due("pass(1)", x.pass(1), 1);
        due("cell(1, 0)", x.cell(1, 0), 5);
        due("cell(7, 0)", x.cell(7, 0), 6);
        due("count(5)", x.count(5), 11);
        due("count(6)", x.count(6), 2);
        part = "a minute, at the cell of the goal";
        x = new RopedHalls();
        x.enter(0, 6);
        x.pass(2);
        due("count(5)", x.count(5), 0);
        due("count(6)", x.count(6), 0);
    }

    private static void minuteNobodyTwice() {
        part = "a minute, nobody goes twice";
        RopedHalls x = new RopedHalls();
        x.guard(32, 0);
        x.enter(31, 4);
        x.pass(1);
        due("cell(32, 0)", x.cell(32, 0), 4);
        due("count(5)", x.count(5), 0);
        due("count(6)", x.count(6), 0);
        x.pass(1);
        due("cell(25, 0)", x.cell(25, 0), 4);
        part = "a minute, some came and some were there";
        x = new RopedHalls();
        x.guard(32, 0);
        x.enter(32, 3);
        x.enter(31, 4);
        x.pass(1);
        due("cell(31, 0)", x.cell(31, 0), 1);
        due("cell(32, 0)", x.cell(32, 0), 3);
        due("cell(25, 0)", x.cell(25, 0), 3);
        due("count(5)", x.count(5), 1);
        due("count(6)", x.count(6), 1);
        part = "a minute, those who came do not wait";
        x = new RopedHalls();
        x.guard(32, 0);
        x.enter(32, 3);
        x.enter(31, 3);
        x.enter(25, 6);
        x.enter(26, 6);
        x.enter(27, 6);
        x.enter(34, 6);
        x.pass(1);
        due("count(2)", x.count(2), 29);
        due("cell(32, 0)", x.cell(32, 0), 5);
        due("cell(25, 0)", x.cell(25, 0), 6);
        due("count(5)", x.count(5), 5 + 5 + 5 + 2);
        due("count(6)", x.count(6), 4);
    }

    private static void minuteStranded() {
        part = "a minute, people who can come to no open door";
        RopedHalls x = new RopedHalls();
        x.rope(5, 0, true);
        x.rope(6, 1, true);
        x.enter(6, 6);
        due("pass(3)", x.pass(3), 0);
        due("cell(6, 0)", x.cell(6, 0), 6);
        due("count(5)", x.count(5), 0);
        due("count(6)", x.count(6), 0);
        due("count(9)", x.count(9), 6);
        x.open(1, true);
        due("count(9)", x.count(9), 0);
        due("pass(2)", x.pass(2), 2);
        x.open(0, false);
        x.open(3, false);
        x.open(1, false);
        x.enter(20, 1);
        due("count(9)", x.count(9), 5);
        due("pass(9)", x.pass(9), 0);
        due("cell(20, 0)", x.cell(20, 0), 1);
    }

    private static void cell() {
        part = "promise 10, cell";
        RopedHalls x = new RopedHalls();
        x.enter(18, 2);
        int[] what = {2, 3, 4, 19, NONE, 0};
        for (int i = 0; i < what.length; i++) {
            due("cell(18, " + i + ")", x.cell(18, i), what[i]);
        }
        x.guard(18, 0);
        x.rope(11, 1, true);
        int[] withGuard = {2, 0, 6, 17, 0, 1};
        for (int i = 0; i < withGuard.length; i++) {
            due("cell(18, " + i + ")", x.cell(18, i), withGuard[i]);
        }
        due("cell(34, 3) at the goal", x.cell(34, 3), NONE);
        due("cell(34, 2)", x.cell(34, 2), 0);
        x.open(0, false);
        x.open(3, false);
        due("cell(18, 1)", x.cell(18, 1), NONE);
        due("cell(18, 2)", x.cell(18, 2), NONE);
        due("cell(18, 3)", x.cell(18, 3), NONE);
        due("cell(18, 4)", x.cell(18, 4), 0);
        for (int none : NO_CELLS) {
            due("cell(" + none + ", 6)", x.cell(none, 6), NO_SUCH);
        }
        for (int bad : new int[] {-1, 6, Integer.MIN_VALUE, Integer.MAX_VALUE}) {
            due("cell(0, " + bad + ")", x.cell(0, bad), BAD_VALUE);
        }
    }

    private static void cellNext() {
        part = "promise 10, next cells";
        RopedHalls x = new RopedHalls();
        due("cell(8, 3): above ahead of left", x.cell(8, 3), 1);
        due("cell(26, 3): right ahead of below", x.cell(26, 3), 27);
        x.open(1, true);
        x.open(2, true);
        due("cell(12, 3): above ahead of right", x.cell(12, 3), 5);
        due("cell(22, 3): left ahead of below", x.cell(22, 3), 21);
        due("cell(35 - 7, 3) at the goal", x.cell(28, 3), NONE);
        x.door(0, 3, 1);
        x.rope(3, 1, true);
        due("cell(10, 2)", x.cell(10, 2), 3);
        due("cell(10, 3): left ahead of right", x.cell(10, 3), 9);
        x.door(0, 14, 1);
        x.rope(14, 0, true);
        due("cell(15, 2)", x.cell(15, 2), 3);
        due("cell(15, 3): above ahead of below", x.cell(15, 3), 8);
        x.rope(8, 1, true);
        due("cell(15, 3) with a rope above", x.cell(15, 3), 22);
    }

    private static void cellRopes() {
        part = "promise 10, ropes of a cell";
        RopedHalls x = new RopedHalls();
        x.rope(17, 0, true);
        due("cell(17, 5)", x.cell(17, 5), 4);
        due("cell(18, 5)", x.cell(18, 5), 2);
        x.rope(17, 1, true);
        due("cell(17, 5)", x.cell(17, 5), 12);
        due("cell(24, 5)", x.cell(24, 5), 1);
        x.rope(10, 1, true);
        x.rope(16, 0, true);
        due("cell(17, 5)", x.cell(17, 5), 15);
        due("cell(10, 5)", x.cell(10, 5), 8);
        due("cell(16, 5)", x.cell(16, 5), 4);
        x.rope(17, 0, false);
        due("cell(17, 5)", x.cell(17, 5), 11);
        x.rope(5, 0, true);
        due("cell(7, 5) in the next row", x.cell(7, 5), 0);
    }

    private static void doorOf() {
        part = "promise 11, doorOf";
        RopedHalls x = new RopedHalls();
        x.enter(8, 3);
        x.enter(0, 2);
        x.enter(26, 4);
        due("doorOf(0, 5)", x.doorOf(0, 5), 5);
        due("doorOf(3, 5)", x.doorOf(3, 5), 4);
        x.guard(8, 3);
        due("doorOf(0, 4)", x.doorOf(0, 4), 19);
        due("doorOf(3, 4)", x.doorOf(3, 4), 16);
        due("doorOf(3, 5)", x.doorOf(3, 5), 7);
        x.pass(1);
        due("doorOf(0, 3)", x.doorOf(0, 3), 1);
        x.open(0, false);
        due("doorOf(0, 2)", x.doorOf(0, 2), 0);
        due("doorOf(0, 3)", x.doorOf(0, 3), 1);
        due("doorOf(0, 4)", x.doorOf(0, 4), 0);
        due("doorOf(0, 5)", x.doorOf(0, 5), 0);
        due("doorOf(3, 4)", x.doorOf(3, 4), 35);
        for (int door : NO_DOORS) {
            due("doorOf(" + door + ", 6)", x.doorOf(door, 6), NO_SUCH);
        }
        for (int bad : new int[] {-1, 6, Integer.MIN_VALUE, Integer.MAX_VALUE}) {
            due("doorOf(0, " + bad + ")", x.doorOf(0, bad), BAD_VALUE);
        }
    }

    private static void count() {
        part = "promise 12, count";
        RopedHalls x = new RopedHalls();
        x.setRoom(7);
        x.enter(0, 7);
        x.enter(1, 7);
        x.rope(20, 1, true);
        x.guard(30, 2);
        x.open(2, true);
        x.pass(2);
        x.put(97);
        int[] counts = {7, 2, 12, 14, 2, 6 + 6 - 1, 2, 1, 13, 0, 2, 1, 1, 6};
        for (int what = 0; what < counts.length; what++) {
            due("count(" + what + ")", x.count(what), counts[what]);
        }
        for (int bad : new int[] {-1, 14, Integer.MIN_VALUE, Integer.MAX_VALUE}) {
            due("count(" + bad + ")", x.count(bad), BAD_VALUE);
        }
    }

    private static void countUneven() {
        part = "promise 12, how uneven it was";
        RopedHalls x = new RopedHalls();
        x.enter(0, 5);
        x.enter(34, 2);
        x.pass(9);
        due("count(10)", x.count(10), 3);
        x.open(1, true);
        due("count(10) with a door that nobody took", x.count(10), 5);
        x.open(0, false);
        due("count(10) without the closed one", x.count(10), 2);
        x.open(1, false);
        due("count(10) with one open door", x.count(10), 0);
        x.open(3, false);
        due("count(10) with none", x.count(10), 0);
        x.open(0, true);
        x.open(2, true);
        due("count(10)", x.count(10), 5);
        due("count(4) counts closed doors, too", x.count(4), 7);
    }

    private static void distance() {
        part = "promise 13, distance";
        RopedHalls x = new RopedHalls();
        due("distance(34, 0)", x.distance(34, 0), 10);
        due("distance(0, 1) of a closed door", x.distance(0, 1), 6);
        due("distance(28, 2)", x.distance(28, 2), 0);
        x.rope(0, 0, true);
        due("distance(6, 0)", x.distance(6, 0), 8);
        due("distance(1, 0)", x.distance(1, 0), 3);
        x.rope(0, 1, true);
        due("distance(1, 0) with no way", x.distance(1, 0), NONE);
        due("distance(0, 0)", x.distance(0, 0), 0);
        due("distance(0, 3)", x.distance(0, 3), NONE);
        x.door(0, 34, 1);
        due("distance(33, 0)", x.distance(33, 0), 1);
        for (int cell : NO_CELLS) {
            due("distance(" + cell + ", 0)", x.distance(cell, 0), NO_SUCH);
        }
        for (int door : NO_DOORS) {
            due("distance(0, " + door + ")", x.distance(0, door), NO_SUCH);
        }
        part = "promise 13, the longest way";
        x = new RopedHalls();
        oneLongWay(x);
        due("distance(34, 0)", x.distance(34, 0), 34);
        x.open(3, false);
        due("cell(34, 2)", x.cell(34, 2), 34);
        due("cell(34, 3)", x.cell(34, 3), 33);
        x.enter(34, 1);
        due("pass(34)", x.pass(34), 0);
        due("cell(0, 0)", x.cell(0, 0), 1);
    }

    private static void untilOut() {
        part = "promise 14, untilOut";
        RopedHalls x = new RopedHalls();
        due("untilOut()", x.untilOut(), 0);
        x.enter(17, 1);
        due("untilOut()", x.untilOut(), 6);
        x.enter(0, 6);
        due("untilOut()", x.untilOut(), 7);
        x.enter(34, 6);
        x.door(3, 34, 9);
        due("untilOut()", x.untilOut(), 7);
        x.rope(5, 0, true);
        x.rope(6, 1, true);
        x.enter(6, 5);
        due("untilOut() without those who cannot come", x.untilOut(), 7);
        due("count(2)", x.count(2), 18);
        due("count(1)", x.count(1), 0);
        due("count(13)", x.count(13), 6);
        due("pass(7)", x.pass(7), 13);
        due("untilOut()", x.untilOut(), 0);
        part = "promise 14, nobody ever goes";
        x = new RopedHalls();
        x.setRoom(1);
        block(x, 1);
        due("untilOut()", x.untilOut(), NONE);
        x.setRoom(2);
        due("untilOut() when both can change places", x.untilOut(), NONE);
        x.guard(1, -1);
        due("untilOut()", x.untilOut(), 3);
    }

    private static void untilOutLimit() {
        part = "promise 14, 400 minutes";
        RopedHalls x = new RopedHalls();
        x.setRoom(20);
        x.open(3, false);
        for (int cell = 0; cell < 20; cell++) {
            x.enter(cell, 20);
        }
        due("untilOut()", x.untilOut(), 400);
        x.enter(20, 1);
        due("untilOut()", x.untilOut(), NONE);
        due("pass(1)", x.pass(1), 1);
        due("untilOut()", x.untilOut(), 400);
    }

    private static void ifRope() {
        part = "promise 15, ifRope";
        RopedHalls x = new RopedHalls();
        x.enter(1, 2);
        x.enter(34, 1);
        due("untilOut()", x.untilOut(), 3);
        due("ifRope(0, 0, 0)", x.ifRope(0, 0, 0), 5);
        due("ifRope(0, 0, 1)", x.ifRope(0, 0, 1), 1);
        due("ifRope(0, 0, 2)", x.ifRope(0, 0, 2), 0);
        due("count(7)", x.count(7), 0);
        x.rope(0, 0, true);
        due("ifRope(0, 0, 0), taken down", x.ifRope(0, 0, 0), 3);
        due("ifRope(0, 1, 1)", x.ifRope(0, 1, 1), 3);
        due("ifRope(0, 1, 2)", x.ifRope(0, 1, 2), 0);
        x.open(3, false);
        due("ifRope(0, 1, 2)", x.ifRope(0, 1, 2), 3);
        due("ifRope(0, 1, 0)", x.ifRope(0, 1, 0), 0);
        due("ifRope(0, 1, 1)", x.ifRope(0, 1, 1), 0);
        due("count(2)", x.count(2), 3);
        due("count(7)", x.count(7), 1);
        due("count(13)", x.count(13), 4);
        for (int cell : NO_CELLS) {
            due("ifRope(" + cell + ", 2, 3)", x.ifRope(cell, 2, 3), NO_SUCH);
        }
        for (int bad : new int[] {-1, 3, Integer.MIN_VALUE, Integer.MAX_VALUE}) {
            due("ifRope(6, 0, " + bad + ")", x.ifRope(6, 0, bad), BAD_VALUE);
            due("ifRope(0, " + bad + ", 0)", x.ifRope(0, bad, 0), BAD_VALUE);
        }
        due("ifRope(0, 2, 0)", x.ifRope(0, 2, 0), BAD_VALUE);
        due("ifRope(13, 0, 0)", x.ifRope(13, 0, 0), NOT_POSSIBLE);
        due("ifRope(28, 1, 2)", x.ifRope(28, 1, 2), NOT_POSSIBLE);
    }

    private static void ifRopeLimit() {
        part = "promise 15, behind 400 minutes";
        RopedHalls x = new RopedHalls();
        x.setRoom(20);
        x.rope(33, 0, true);
        x.rope(27, 1, true);
        for (int cell = 0; cell < 25; cell++) {
            x.enter(cell, 20);
        }
        due("ifRope(30, 0, 0)", x.ifRope(30, 0, 0), NONE);
        due("ifRope(30, 0, 1)", x.ifRope(30, 0, 1), 400);
        due("ifRope(30, 0, 2)", x.ifRope(30, 0, 2), 0);
        part = "promise 15, nobody ever goes";
        x = new RopedHalls();
        x.setRoom(1);
        block(x, 5);
        x.enter(34, 1);
        due("ifRope(16, 0, 0)", x.ifRope(16, 0, 0), NONE);
        due("ifRope(16, 0, 1)", x.ifRope(16, 0, 1), 1);
        due("ifRope(5, 0, 0)", x.ifRope(5, 0, 0), 6);
        due("ifRope(5, 0, 1)", x.ifRope(5, 0, 1), 3);
    }

    private static void bestRope() {
        part = "promise 16, bestRope";
        RopedHalls x = new RopedHalls();
        due("bestRope(0)", x.bestRope(0), 0);
        due("bestRope(1)", x.bestRope(1), 0);
        due("bestRope(2)", x.bestRope(2), 0);
        x.rope(0, 0, true);
        due("bestRope(0) without the one that hangs", x.bestRope(0), 1);
        due("count(7)", x.count(7), 1);
        due("count(13)", x.count(13), 1);
        for (int bad : new int[] {-1, 3, Integer.MIN_VALUE, Integer.MAX_VALUE}) {
            due("bestRope(" + bad + ")", x.bestRope(bad), BAD_VALUE);
        }
        part = "promise 16, the most even";
        x = new RopedHalls();
        x.door(0, 28, 1);
        x.enter(31, 3);
        x.enter(28, 3);
        due("ifRope(16, 0, 1)", x.ifRope(16, 0, 1), 6);
        due("bestRope(0)", x.bestRope(0), 2 * 28);
        due("bestRope(1)", x.bestRope(1), 0);
        due("bestRope(2)", x.bestRope(2), 6);
        part = "promise 16, of several the fastest";
        x = new RopedHalls();
        x.enter(2, 1);
        due("ifRope(0, 0, 1)", x.ifRope(0, 0, 1), 1);
        due("ifRope(0, 0, 0)", x.ifRope(0, 0, 0), 5);
        due("bestRope(0)", x.bestRope(0), 1);
        due("bestRope(1)", x.bestRope(1), 1);
        due("bestRope(2)", x.bestRope(2), 3);
    }

    private static void bestRopeRules() {
        part = "promise 16, nobody more can come to no door";
        RopedHalls x = new RopedHalls();
        x.rope(6, 1, true);
        x.enter(6, 1);
        due("ifRope(5, 0, 1)", x.ifRope(5, 0, 1), 0);
        due("ifRope(5, 0, 2)", x.ifRope(5, 0, 2), 1);
        due("bestRope(0)", x.bestRope(0), 0);
        due("bestRope(1)", x.bestRope(1), 1);
        due("bestRope(2)", x.bestRope(2), 7);
        x.rope(5, 0, true);
        due("bestRope(0) when he cannot come anyway", x.bestRope(0), 0);
        due("bestRope(1)", x.bestRope(1), 0);
        part = "promise 16, untilOut() is not NONE";
        x = new RopedHalls();
        x.setRoom(1);
        block(x, 5);
        due("untilOut()", x.untilOut(), NONE);
        due("bestRope(0)", x.bestRope(0), 2 * 5);
        due("bestRope(1)", x.bestRope(1), 2);
        due("bestRope(2)", x.bestRope(2), 6);
        block(x, 1);
        due("bestRope(0)", x.bestRope(0), NONE);
        due("bestRope(1)", x.bestRope(1), NONE);
        due("bestRope(2)", x.bestRope(2), NONE);
        due("bestRope(3)", x.bestRope(3), BAD_VALUE);
    }

    private static void waiting() {
        part = "promise 17, waiting";
        RopedHalls x = new RopedHalls();
        due("waiting()", x.waiting(), 0);
        x.enter(0, 6);
        due("waiting()", x.waiting(), 0);
        x.enter(1, 3);
        due("waiting()", x.waiting(), 2 + 1);
        x.pass(1);
        due("count(5)", x.count(5), 2);
        due("waiting() from now on", x.waiting(), 1);
        due("count(5)", x.count(5), 2);
        due("count(13)", x.count(13), 3);
        part = "promise 17, 400 minutes";
        x = new RopedHalls();
        x.setRoom(1);
        block(x, 1);
        due("waiting()", x.waiting(), 800);
        x.pass(5);
        due("waiting()", x.waiting(), 800);
        due("count(5)", x.count(5), 10);
        part = "promise 17, those who cannot come do not wait";
        x = new RopedHalls();
        x.open(0, false);
        x.open(3, false);
        x.enter(1, 6);
        due("waiting()", x.waiting(), 0);
    }

    private static void put() {
        part = "promise 18, put";
        RopedHalls x = new RopedHalls();
        due("put(97)", x.put(97), 1);
        due("put(\"1:2,b2:3\")", x.put(number("1:2,b2:3")), 9);
        due("fault()", x.fault(), NONE);
        due("read()", x.read(), 5);
        due("cell(0, 0)", x.cell(0, 0), 2);
        due("cell(8, 0)", x.cell(8, 0), 3);
        long[] bad = {0, 32, 127, 255, 128, 0x6100, 0x610061, 0x6120, 0x7F61, 0x2061, 0x6161616161616120L,
            0x2061616161616161L, 0x7F61616161616161L, 0xE161616161616161L, 0x6100000000000000L, 0x6100000000000061L,
            0x6161610061616161L, -1L, Long.MIN_VALUE, Long.MAX_VALUE, 1L << 8, 1L << 32, 1L << 32 | 97, 1L << 8 | 97};
        for (long characters : bad) {
            due("put(" + characters + ")", x.put(characters), BAD_VALUE);
        }
        due("count(12)", x.count(12), 0);
        due("put(33)", x.put(33), 1);
        due("put(126)", x.put(126), 2);
        for (int i = 0; i < 7; i++) {
            x.put(number("~!~!~!~!"));
        }
        due("count(12)", x.count(12), 58);
        due("put of 3", x.put(number("abc")), TOO_MANY);
        due("put of 8", x.put(number("abcdefgh")), TOO_MANY);
        due("put(0)", x.put(0), BAD_VALUE);
        due("count(12)", x.count(12), 58);
        due("put of 2", x.put(number("ab")), 60);
        due("put of 1", x.put(97), TOO_MANY);
        due("put(32)", x.put(32), BAD_VALUE);
        due("count(13)", x.count(13), 1);
    }

    private static void wipe() {
        part = "promise 19, wipe";
        RopedHalls x = new RopedHalls();
        due("wipe()", x.wipe(), 0);
        type(x, "a1:5,b2:3,c3:20");
        due("wipe()", x.wipe(), 15);
        due("count(12)", x.count(12), 0);
        due("wipe()", x.wipe(), 0);
        type(x, "d1:1");
        due("read() has none of the wiped text", x.read(), 1);
        due("count(13)", x.count(13), 1);
    }

    private static void faultOf(String text, int want) {
        RopedHalls x = new RopedHalls();
        type(x, text);
        due("fault() of " + text, x.fault(), want);
        due("count(12) of " + text, x.count(12), text.length());
        if (want != NONE) {
            due("read() of " + text, x.read(), BAD_TEXT);
        }
    }

    private static void fault() {
        part = "promise 20, fault";
        for (String good : new String[] {"a1:1", "g5:20", "c3:10", "c3:19", "c3:2", "c3:9", "a1:1,b2:2", "a1:20,a1:20",
            "a1:15,b2:15,c3:15,d4:15,e5:15,f1:15,g2:15,a3:15,b4:15,c5:1"}) {
            faultOf(good, NONE);
        }
        for (String early : new String[] {"", "a", "a1", "a1:", "a1:1,", "a1:20,g", "a1:20,g5", "a1:20,g5:"}) {
            faultOf(early, early.length());
        }
        for (String atFirst : new String[] {"h", "`", "A1:1", "1", ",", ":", "!", "~", "h1:1,"}) {
            faultOf(atFirst, 0);
        }
        for (String atSecond : new String[] {"a0", "a6", "aa", "a:", "a,", "a/:3", "a9:1"}) {
            faultOf(atSecond, 1);
        }
        faultOf("a1;1", 2);
        faultOf("a1,", 2);
        faultOf("a11", 2);
        for (String digit : new String[] {"a1:0", "a1:,", "a1:a", "a1::", "a1:/", "a1:01", "a1:-1"}) {
            faultOf(digit, 3);
        }
        for (String more : new String[] {"a1:21", "a1:22", "a1:29", "a1:30", "a1:90", "a1:1a", "a1:1:", "a1:1/", "a1:2/",
            "a1:3;"}) {
            faultOf(more, 4);
        }
        for (String more : new String[] {"a1:100", "a1:200", "a1:20:", "a1:19a", "a1:1,,", "a1:9,h", "a1:2,1"}) {
            faultOf(more, 5);
        }
        faultOf("a1:1,b2:2,c3:33", 14);
        faultOf("a1:20,b6:1", 7);
    }

    private static void undo() {
        part = "promise 21, undo";
        RopedHalls x = new RopedHalls();
        due("undo()", x.undo(), NOT_POSSIBLE);
        for (int i = 0; i < 8; i++) {
            due("enter(" + i + ", 1)", x.enter(i, 1), 1);
            due("count(13)", x.count(13), Math.min(6, i + 1));
        }
        for (int left = 5; left >= 0; left--) {
            due("undo()", x.undo(), left);
            due("count(2)", x.count(2), left + 2);
            due("count(13)", x.count(13), left);
        }
        due("undo()", x.undo(), NOT_POSSIBLE);
        due("cell(0, 0)", x.cell(0, 0), 1);
        due("cell(1, 0)", x.cell(1, 0), 1);
        due("cell(2, 0)", x.cell(2, 0), 0);
        part = "promise 21, the pad and the slots stay";
        x = new RopedHalls();
        x.enter(0, 2);
        type(x, "a1:1");
        x.save(0);
        due("undo()", x.undo(), 0);
        due("count(12)", x.count(12), 4);
        due("read()", x.read(), 1);
        due("undo()", x.undo(), 0);
        due("count(12) after the undone read()", x.count(12), 0);
        due("restore(0)", x.restore(0), 2);
        part = "promise 21, changes and undos by turns";
        x = new RopedHalls();
        for (int i = 1; i <= 20; i++) {
            x.setRoom(i % 20 + 1);
            x.setRoom(i % 7 + 1);
            due("undo()", x.undo(), Math.min(5, i));
            due("count(0)", x.count(0), i % 20 + 1);
        }
    }

    private static void undoOfEachChange() {
        part = "promise 21, undo of each change";
        RopedHalls x = new RopedHalls();
        x.setRoom(9);
        x.undo();
        due("count(0)", x.count(0), 6);
        x.rope(8, 1, true);
        x.undo();
        due("cell(8, 5)", x.cell(8, 5), 0);
        x.rope(8, 1, true);
        x.rope(8, 1, false);
        due("undo()", x.undo(), 1);
        due("cell(15, 5)", x.cell(15, 5), 1);
        x.door(2, 9, 5);
        x.undo();
        due("doorOf(2, 0)", x.doorOf(2, 0), 28);
        due("doorOf(2, 1)", x.doorOf(2, 1), 1);
        x.open(2, true);
        x.undo();
        due("count(8)", x.count(8), 9);
        x.guard(20, 0);
        x.undo();
        due("cell(20, 4)", x.cell(20, 4), NONE);
        x.enter(0, 6);
        x.enter(1, 6);
        x.enter(6, 1);
        x.undo();
        due("count(3)", x.count(3), 12);
        x.pass(3);
        due("count(5)", x.count(5), 5 + 4 + 3);
        due("undo()", x.undo(), 3);
        int[] counts = {6, 0, 12, 12, 0, 0, 0, 1, 9, 0, 0, 0, 0, 3};
        for (int what = 0; what < counts.length; what++) {
            due("count(" + what + ")", x.count(what), counts[what]);
        }
        due("doorOf(0, 3)", x.doorOf(0, 3), 0);
        x.save(1);
        x.pass(9);
        x.restore(1);
        due("undo() of restore", x.undo(), 4);
        due("count(1)", x.count(1), 9);
        due("doorOf(0, 3)", x.doorOf(0, 3), 9);
    }

    private static void save() {
        part = "promise 22, save";
        RopedHalls x = new RopedHalls();
        due("save(0)", x.save(0), 0);
        x.enter(3, 4);
        due("save(1)", x.save(1), 4);
        due("count(13)", x.count(13), 1);
        for (int slot : new int[] {-1, 2, Integer.MIN_VALUE, Integer.MAX_VALUE}) {
            due("save(" + slot + ")", x.save(slot), BAD_VALUE);
        }
        due("restore(0)", x.restore(0), 0);
        x.enter(5, 6);
        due("save(0) over the first", x.save(0), 6);
        due("restore(1)", x.restore(1), 4);
        due("restore(0)", x.restore(0), 6);
        due("cell(5, 0)", x.cell(5, 0), 6);
        x.pass(1);
        due("restore(0) still as it was", x.restore(0), 6);
        due("count(1)", x.count(1), 0);
    }

    private static void restore() {
        part = "promise 23, restore";
        RopedHalls x = new RopedHalls();
        due("restore(0)", x.restore(0), NOT_POSSIBLE);
        x.setRoom(8);
        x.rope(17, 1, true);
        x.door(1, 20, 4);
        x.open(1, true);
        x.guard(2, 3);
        x.enter(0, 8);
        x.enter(7, 8);
        x.pass(2);
        due("count(5)", x.count(5), 7 + 6);
        x.save(1);
        int[] before = new int[12];
        for (int what = 0; what < 12; what++) {
            before[what] = x.count(what);
        }
        due("restore(0)", x.restore(0), NOT_POSSIBLE);
        x.pass(50);
        x.setRoom(3);
        x.rope(17, 1, false);
        x.rope(18, 1, true);
        x.door(1, 6, 1);
        x.open(1, false);
        x.guard(2, -1);
        x.guard(4, 0);
        type(x, "b2:1");
        for (int slot : new int[] {-1, 2, Integer.MIN_VALUE, Integer.MAX_VALUE}) {
            due("restore(" + slot + ")", x.restore(slot), BAD_VALUE);
        }
        due("restore(1)", x.restore(1), 14);
        for (int what = 0; what < 12; what++) {
            due("count(" + what + ")", x.count(what), before[what]);
        }
        due("count(12), the pad stays", x.count(12), 4);
        due("count(13)", x.count(13), 6);
        due("cell(17, 5)", x.cell(17, 5), 8);
        due("cell(18, 5)", x.cell(18, 5), 0);
        due("cell(2, 4)", x.cell(2, 4), 3);
        due("cell(4, 4)", x.cell(4, 4), NONE);
        due("doorOf(1, 0)", x.doorOf(1, 0), 20);
        due("doorOf(1, 1)", x.doorOf(1, 1), 4);
        due("doorOf(1, 2)", x.doorOf(1, 2), 1);
        due("doorOf(0, 3)", x.doorOf(0, 3), 2);
        due("restore(1) again", x.restore(1), 14);
        due("undo()", x.undo(), 5);
        due("undo()", x.undo(), 4);
        due("cell(4, 4)", x.cell(4, 4), 0);
        due("count(0)", x.count(0), 3);
    }

    /** The example of README.md, call by call; who changes one of both changes the other. */
    private static void readme() {
        part = "README.md, Using it";
        RopedHalls x = new RopedHalls();
        due("enter(17, 6)", x.enter(17, 6), 6);
        due("rope(16, 0, true)", x.rope(16, 0, true), 1);
        due("cell(17, 1)", x.cell(17, 1), 0);
        due("cell(17, 3)", x.cell(17, 3), 10);
        due("untilOut()", x.untilOut(), 11);
        due("bestRope(0)", x.bestRope(0), 0);
        due("pass(10)", x.pass(10), 5);
        due("count(2)", x.count(2), 1);
        due("enter(0, 7)", x.enter(0, 7), TOO_MANY);
        due("undo()", x.undo(), 2);
        due("count(1), as if they had not passed", x.count(1), 0);
        due("put of the text a1:6", x.put('a' << 24 | '1' << 16 | ':' << 8 | '6'), 4);
        due("read()", x.read(), 6);
        due("cell(0, 0)", x.cell(0, 0), 6);
    }
}
