import java.util.function.Consumer;
import java.util.function.ToIntFunction;

/** The boundary cases that the promises 1 to 23 name, a test of its own for each; refused calls are in RefusalTest. */
public final class PromisesBoundaryTest extends Checks {
    private static final int[] OUTSIDE = {-1, Integer.MIN_VALUE, Integer.MAX_VALUE};

    public static void main(String[] args) {
        newObject();
        setRoom();
        rope();
        door();
        open();
        guard();
        enter();
        read();
        readAsThereIsRoom();
        pass();
        passToTheLastMinute();
        cell();
        doorOf();
        count();
        countUneven();
        distance();
        untilOut();
        untilOutLimit();
        ifRope();
        ifRopeLimit();
        bestRope();
        bestRopeChoice();
        bestRopeNone();
        whatIfsChangeNothing();
        waiting();
        put();
        putEachCode();
        putZeros();
        wipe();
        fault();
        undo();
        undoOfEachChange();
        undoKeeps();
        save();
        restore();
        calls();
        finish();
    }

    private static void newObject() {
        test("1: an empty hall", x -> {
            for (int cell = 0; cell < 35; cell++) {
                due("cell(" + cell + ", 0)", x.cell(cell, 0), 0);
            }
            for (int what = 1; what <= 6; what++) {
                due("count(" + what + ")", x.count(what), 0);
            }
        });
        test("1: without ropes and guards", x -> {
            for (int cell = 0; cell < 35; cell++) {
                due("cell(" + cell + ", 4)", x.cell(cell, 4), NONE);
                due("cell(" + cell + ", 5)", x.cell(cell, 5), 0);
            }
            due("count(7)", x.count(7), 0);
            due("count(11)", x.count(11), 0);
        });
        test("1: with an empty pad, an empty history and empty slots", x -> {
            due("count(12)", x.count(12), 0);
            due("count(13)", x.count(13), 0);
            due("undo()", x.undo(), NOT_POSSIBLE);
            due("restore(0)", x.restore(0), NOT_POSSIBLE);
            due("restore(1)", x.restore(1), NOT_POSSIBLE);
        });
        test("1: a new object has nothing of another one", x -> {
            x.enter(0, 6);
            x.rope(1, 0, true);
            x.guard(2, 0);
            x.put(97);
            x.save(0);
            RopedHalls other = new RopedHalls();
            int[] counts = {6, 0, 0, 0, 0, 0, 0, 0, 9, 0, 0, 0, 0, 0};
            for (int what = 0; what < counts.length; what++) {
                due("count(" + what + ")", other.count(what), counts[what]);
            }
            due("restore(0)", other.restore(0), NOT_POSSIBLE);
            other.enter(0, 1);
            due("cell(0, 0) of the first", x.cell(0, 0), 6);
        });
    }

    private static void setRoom() {
        test("2: people 1 to 20", x -> {
            int before = 6;
            for (int people = 1; people <= 20; people++) {
                due("setRoom(" + people + ")", x.setRoom(people), before);
                due("count(0)", x.count(0), people);
                before = people;
            }
            for (int people : new int[] {0, 21, -1, -6, Integer.MIN_VALUE, Integer.MAX_VALUE}) {
                due("setRoom(" + people + ")", x.setRoom(people), BAD_VALUE);
            }
            due("count(0)", x.count(0), 20);
        });
        for (int at : new int[] {0, 6, 17, 28, 34}) {
            test("2: NOT_POSSIBLE if a cell has more: the cell " + at, x -> {
                x.enter(at, 4);
                due("setRoom(3)", x.setRoom(3), NOT_POSSIBLE);
                due("setRoom(1)", x.setRoom(1), NOT_POSSIBLE);
                due("setRoom(4)", x.setRoom(4), 6);
                due("enter", x.enter(at, 1), TOO_MANY);
            });
        }
        test("2: NOT_POSSIBLE if a cell has more: the most that there can be", x -> {
            x.setRoom(20);
            x.enter(34, 20);
            due("setRoom(19)", x.setRoom(19), NOT_POSSIBLE);
            due("setRoom(20)", x.setRoom(20), 20);
            x.pass(1);
            due("setRoom(19) when one is out", x.setRoom(19), 20);
        });
        test("2: NOT_POSSIBLE if a cell has more: not if all together are more", x -> {
            x.enter(16, 1);
            x.enter(17, 1);
            due("setRoom(1)", x.setRoom(1), 6);
        });
    }

    private static void rope() {
        test("3: returns how many ropes hang then: 1 to 24, and to none again", x -> {
            for (int i = 0; i < 24; i++) {
                due("rope " + i, x.rope(i, 1, true), i + 1);
            }
            for (int i = 23; i >= 0; i--) {
                due("rope " + i, x.rope(i, 1, false), i);
            }
        });
        test("3: NO_SUCH if there is no such cell", x -> {
            for (int cell : NO_CELLS) {
                due("rope(" + cell + ", 0, true)", x.rope(cell, 0, true), NO_SUCH);
                due("rope(" + cell + ", 1, false)", x.rope(cell, 1, false), NO_SUCH);
            }
        });
        test("3: BAD_VALUE if side is out of range", x -> {
            for (int side : new int[] {-1, 2, 3, Integer.MIN_VALUE, Integer.MAX_VALUE}) {
                due("rope(0, " + side + ", true)", x.rope(0, side, true), BAD_VALUE);
                due("rope(0, " + side + ", false)", x.rope(0, side, false), BAD_VALUE);
            }
        });
        test("3: NOT_POSSIBLE if it is so already: it hangs", x -> {
            x.rope(16, 0, true);
            due("rope(16, 0, true)", x.rope(16, 0, true), NOT_POSSIBLE);
            due("rope(16, 1, true), the other side", x.rope(16, 1, true), 2);
        });
        test("3: NOT_POSSIBLE if it is so already: it does not hang", x -> {
            due("rope(16, 0, false)", x.rope(16, 0, false), NOT_POSSIBLE);
            x.rope(16, 0, true);
            x.rope(16, 0, false);
            due("rope(16, 0, false)", x.rope(16, 0, false), NOT_POSSIBLE);
        });
        test("3: TOO_MANY if 24 hang: not with 23", x -> {
            oneLongWay(x);
            due("rope(0, 0, true) with 24", x.rope(0, 0, true), TOO_MANY);
            due("rope(0, 1, false) with 24", x.rope(0, 1, false), 23);
            due("rope(0, 0, true) with 23", x.rope(0, 0, true), 24);
            due("rope(0, 1, true) with 24", x.rope(0, 1, true), TOO_MANY);
        });
    }

    private static void door() {
        test("4: rate 1 to 9", x -> {
            for (int rate = 1; rate <= 9; rate++) {
                due("door(2, 28, " + rate + ")", x.door(2, 28, rate), 28);
                due("doorOf(2, 1)", x.doorOf(2, 1), rate);
            }
            for (int rate : new int[] {0, 10, -1, -6, Integer.MIN_VALUE, Integer.MAX_VALUE}) {
                due("door(2, 28, " + rate + ")", x.door(2, 28, rate), BAD_VALUE);
            }
            due("doorOf(2, 1)", x.doorOf(2, 1), 9);
        });
        test("4: returns the cell at which it was: each cell", x -> {
            int before = 6;
            for (int cell = 0; cell < 35; cell++) {
                due("door(1, " + cell + ", 1)", x.door(1, cell, 1), before);
                due("doorOf(1, 0)", x.doorOf(1, 0), cell);
                before = cell;
            }
        });
        test("4: NO_SUCH if there is no such door or cell", x -> {
            for (int door : NO_DOORS) {
                due("door(" + door + ", 0, 1)", x.door(door, 0, 1), NO_SUCH);
            }
            for (int cell : NO_CELLS) {
                due("door(0, " + cell + ", 1)", x.door(0, cell, 1), NO_SUCH);
            }
        });
        test("4: a door that is put elsewhere stays open or closed, and who went out by it is counted on", x -> {
            x.enter(0, 2);
            x.pass(1);
            x.door(0, 33, 3);
            x.door(1, 33, 3);
            due("count(8)", x.count(8), 9);
            due("doorOf(0, 3)", x.doorOf(0, 3), 1);
            x.enter(33, 4);
            due("pass(1)", x.pass(1), 3);
            due("doorOf(0, 3)", x.doorOf(0, 3), 4);
        });
    }

    private static void open() {
        test("5: returns how many doors are open then: all, and none", x -> {
            due("open(1, true)", x.open(1, true), 3);
            due("open(2, true)", x.open(2, true), 4);
            for (int door = 0; door < 4; door++) {
                due("open(" + door + ", false)", x.open(door, false), 3 - door);
            }
            for (int door = 3; door >= 0; door--) {
                due("open(" + door + ", true)", x.open(door, true), 4 - door);
            }
        });
        test("5: NO_SUCH if there is no such door", x -> {
            for (int door : NO_DOORS) {
                due("open(" + door + ", true)", x.open(door, true), NO_SUCH);
                due("open(" + door + ", false)", x.open(door, false), NO_SUCH);
            }
        });
        for (int door = 0; door < 4; door++) {
            int one = door;
            test("5: NOT_POSSIBLE if it is so already: the door " + door, x -> {
                boolean isOpen = one == 0 || one == 3;
                due("open(" + one + ", " + isOpen + ")", x.open(one, isOpen), NOT_POSSIBLE);
                due("open(" + one + ", " + !isOpen + ")", x.open(one, !isOpen), isOpen ? 1 : 3);
                due("open(" + one + ", " + !isOpen + ")", x.open(one, !isOpen), NOT_POSSIBLE);
            });
        }
    }

    private static void guard() {
        test("6: door 0 to 3, or -1", x -> {
            for (int door = 0; door < 4; door++) {
                due("guard(17, " + door + ")", x.guard(17, door), door == 3 ? 3 : 0);
                due("cell(17, 4)", x.cell(17, 4), door);
            }
            due("guard(17, -1)", x.guard(17, -1), 0);
            due("cell(17, 4)", x.cell(17, 4), NONE);
            for (int door : new int[] {-2, 4, -6, Integer.MIN_VALUE, Integer.MAX_VALUE}) {
                due("guard(17, " + door + ")", x.guard(17, door), BAD_VALUE);
            }
            due("count(11)", x.count(11), 0);
        });
        test("6: -1: no guard any more, also where there is none", x -> {
            due("guard(34, -1)", x.guard(34, -1), 3);
            due("cell(34, 4)", x.cell(34, 4), NONE);
            due("count(11)", x.count(11), 0);
        });
        test("6: in place of one that is there", x -> {
            x.guard(8, 3);
            due("guard(8, 0)", x.guard(8, 0), 0);
            due("guard(8, 0) again", x.guard(8, 0), 0);
            due("count(11)", x.count(11), 1);
        });
        test("6: NO_SUCH if there is no such cell", x -> {
            for (int cell : NO_CELLS) {
                due("guard(" + cell + ", 0)", x.guard(cell, 0), NO_SUCH);
                due("guard(" + cell + ", -1)", x.guard(cell, -1), NO_SUCH);
            }
        });
        test("6: returns the goal of the cell then (NONE): with no open door", x -> {
            x.open(0, false);
            x.open(3, false);
            due("guard(8, 0)", x.guard(8, 0), NONE);
            due("guard(8, -1)", x.guard(8, -1), NONE);
        });
        test("6: returns the goal of the cell then, not the door of the guard", x -> {
            due("guard(8, 1), which is closed", x.guard(8, 1), 0);
            due("guard(26, 2), which is closed", x.guard(26, 2), 3);
        });
    }

    private static void enter() {
        test("7: many 1 to 20", x -> {
            x.setRoom(20);
            for (int many = 1; many <= 20; many++) {
                due("enter(" + many + ", " + many + ")", x.enter(many, many), many);
            }
            for (int many : new int[] {0, 21, -1, -6, Integer.MIN_VALUE, Integer.MAX_VALUE}) {
                due("enter(0, " + many + ")", x.enter(0, many), BAD_VALUE);
            }
            due("count(3)", x.count(3), 210);
        });
        test("7: TOO_MANY if there would be more than ROOM: into an empty cell", x -> {
            due("enter(0, 7)", x.enter(0, 7), TOO_MANY);
            due("enter(0, 20)", x.enter(0, 20), TOO_MANY);
            due("enter(0, 6)", x.enter(0, 6), 6);
        });
        test("7: TOO_MANY if there would be more than ROOM: one after the other, and into a full cell", x -> {
            for (int many = 1; many <= 6; many++) {
                due("enter(34, 1)", x.enter(34, 1), many);
            }
            due("enter(34, 1)", x.enter(34, 1), TOO_MANY);
            due("count(2)", x.count(2), 6);
            due("count(3)", x.count(3), 6);
        });
        test("7: returns how many there are in it then: not only those who came", x -> {
            due("enter(5, 2)", x.enter(5, 2), 2);
            due("enter(5, 4)", x.enter(5, 4), 6);
            due("enter(6, 1)", x.enter(6, 1), 1);
        });
        test("7: NO_SUCH if there is no such cell", x -> {
            for (int cell : NO_CELLS) {
                due("enter(" + cell + ", 1)", x.enter(cell, 1), NO_SUCH);
            }
        });
    }

    private static void read() {
        test("8: BAD_TEXT if the pad has a fault: the empty pad", x -> {
            due("read()", x.read(), BAD_TEXT);
            due("count(13)", x.count(13), 0);
        });
        test("8: BAD_TEXT if the pad has a fault: in its last crowd; nobody comes in, the pad stays", x -> {
            type(x, "a1:3,b1:3,c6:1");
            due("read()", x.read(), BAD_TEXT);
            due("count(2)", x.count(2), 0);
            due("count(12)", x.count(12), 14);
            due("fault()", x.fault(), 11);
        });
        test("8: the pad is emptied", x -> {
            type(x, "a1:3");
            due("read()", x.read(), 3);
            due("count(12)", x.count(12), 0);
            due("read() again", x.read(), BAD_TEXT);
            type(x, "b1:2");
            due("read() of another one", x.read(), 2);
            due("cell(0, 0)", x.cell(0, 0), 3);
        });
        test("8: crowds of a full pad", x -> {
            type(x, "a1:10" + ",a1:1,b1:1,c1:1".repeat(3) + ",d1:1,e1:1");
            due("count(12)", x.count(12), 60);
            due("read()", x.read(), 6 + 3 + 3 + 1 + 1);
            due("cell(0, 0)", x.cell(0, 0), 6);
            due("cell(4, 0)", x.cell(4, 0), 1);
        });
    }

    private static void readAsThereIsRoom() {
        int[][] rooms = {{0, 1, 1}, {0, 5, 5}, {0, 6, 6}, {0, 7, 6}, {0, 20, 6}, {4, 1, 1}, {4, 2, 2}, {4, 3, 2},
            {6, 1, 0}, {6, 20, 0}};
        for (int[] room : rooms) {
            test("8: as many as there is room: " + room[1] + " to " + room[0], x -> {
                x.enter(24, room[0]);
                type(x, "d4:" + room[1]);
                due("read()", x.read(), room[2]);
                due("cell(24, 0)", x.cell(24, 0), room[0] + room[2]);
                due("count(3)", x.count(3), room[0] + room[2]);
                due("count(12)", x.count(12), 0);
            });
        }
        test("8: one after the other: the second of a cell gets what the first left", x -> {
            type(x, "d4:4,d4:4,a1:1,d4:4");
            due("read()", x.read(), 7);
            due("cell(24, 0)", x.cell(24, 0), 6);
        });
        test("8: as many as there is room: with ROOM 1 and with ROOM 20", x -> {
            x.setRoom(1);
            type(x, "d4:20");
            due("read()", x.read(), 1);
            x.setRoom(20);
            type(x, "d4:20,e4:20");
            due("read()", x.read(), 39);
        });
    }

    private static void pass() {
        test("9: minutes 1 to 99", x -> {
            due("pass(0)", x.pass(0), BAD_VALUE);
            due("pass(100)", x.pass(100), BAD_VALUE);
            due("pass(1)", x.pass(1), 0);
            due("count(1)", x.count(1), 1);
            due("pass(99)", x.pass(99), 0);
            due("count(1)", x.count(1), 100);
            for (int minutes : OUTSIDE) {
                due("pass(" + minutes + ")", x.pass(minutes), BAD_VALUE);
            }
            due("count(1)", x.count(1), 100);
        });
        test("9: returns how many people go out in them: all of them, and no others", x -> {
            x.enter(0, 6);
            x.enter(34, 3);
            due("pass(1)", x.pass(1), 2);
            due("pass(2)", x.pass(2), 4);
            due("pass(99)", x.pass(99), 3);
            due("pass(99)", x.pass(99), 0);
        });
        test("9: many minutes are as one after the other", x -> {
            RopedHalls other = new RopedHalls();
            enterAll(x, 6);
            enterAll(other, 6);
            x.guard(9, 3);
            other.guard(9, 3);
            int out = 0;
            for (int i = 0; i < 99; i++) {
                out += other.pass(1);
            }
            due("pass(99)", x.pass(99), out);
            for (int what = 0; what < 12; what++) {
                due("count(" + what + ")", x.count(what), other.count(what));
            }
        });
    }

    /** Lets minutes pass until there are so many. */
    private static void passTo(RopedHalls x, int minutes) {
        for (int i = 0; i < 102 && x.count(1) < minutes; i++) {
            x.pass(Math.min(99, minutes - x.count(1)));
        }
    }

    private static void passToTheLastMinute() {
        test("9: TOO_MANY if the minutes would be above 9999: by one minute", x -> {
            passTo(x, 9998);
            due("pass(2)", x.pass(2), TOO_MANY);
            due("count(1)", x.count(1), 9998);
            due("pass(1)", x.pass(1), 0);
            due("pass(1)", x.pass(1), TOO_MANY);
            due("count(1)", x.count(1), 9999);
        });
        test("9: TOO_MANY if the minutes would be above 9999: by the most minutes", x -> {
            passTo(x, 9900);
            due("pass(99)", x.pass(99), 0);
            due("count(1)", x.count(1), 9999);
            due("pass(99)", x.pass(99), TOO_MANY);
        });
        test("9: TOO_MANY if the minutes would be above 9999: with 9901 the most minutes are too many", x -> {
            passTo(x, 9901);
            due("pass(99)", x.pass(99), TOO_MANY);
            due("pass(98)", x.pass(98), 0);
        });
    }

    private static void cell() {
        test("10: what 0 to 5", x -> {
            for (int what : new int[] {-1, 6, Integer.MIN_VALUE, Integer.MAX_VALUE}) {
                due("cell(17, " + what + ")", x.cell(17, what), BAD_VALUE);
            }
        });
        test("10: NO_SUCH if there is no such cell", x -> {
            for (int cell : NO_CELLS) {
                for (int what = 0; what < 6; what++) {
                    due("cell(" + cell + ", " + what + ")", x.cell(cell, what), NO_SUCH);
                }
            }
        });
        test("10: its people: none, and the most", x -> {
            due("cell(34, 0)", x.cell(34, 0), 0);
            x.setRoom(20);
            x.enter(34, 20);
            due("cell(34, 0)", x.cell(34, 0), 20);
        });
        test("10: its distance from its goal: none, 0, and the most", x -> {
            oneLongWay(x);
            due("cell(34, 2)", x.cell(34, 2), 0);
            x.open(3, false);
            due("cell(34, 2)", x.cell(34, 2), 34);
            x.open(0, false);
            due("cell(34, 2)", x.cell(34, 2), NONE);
        });
        test("10: its distance from its goal, not from the nearest door", x -> {
            x.guard(1, 3);
            due("cell(1, 2)", x.cell(1, 2), 9);
        });
        test("10: the door to which its guard sends (NONE without one): also a closed one, out of reach", x -> {
            due("cell(0, 4)", x.cell(0, 4), NONE);
            for (int door = 0; door < 4; door++) {
                x.guard(0, door);
                due("cell(0, 4)", x.cell(0, 4), door);
            }
            x.open(3, false);
            x.rope(0, 0, true);
            x.rope(0, 1, true);
            due("cell(0, 4)", x.cell(0, 4), 3);
            due("cell(0, 1)", x.cell(0, 1), 0);
        });
        test("10: its ropes: none, each alone, all together, and those of the cells beside it", x -> {
            due("cell(8, 5)", x.cell(8, 5), 0);
            x.rope(1, 1, true);
            due("cell(8, 5), above", x.cell(8, 5), 1);
            x.rope(7, 0, true);
            due("cell(8, 5), and to the left", x.cell(8, 5), 1 + 2);
            x.rope(8, 0, true);
            due("cell(8, 5), and to the right", x.cell(8, 5), 1 + 2 + 4);
            x.rope(8, 1, true);
            due("cell(8, 5), and below", x.cell(8, 5), 1 + 2 + 4 + 8);
            due("cell(1, 5)", x.cell(1, 5), 8);
            due("cell(7, 5)", x.cell(7, 5), 4);
            due("cell(9, 5)", x.cell(9, 5), 2);
            due("cell(15, 5)", x.cell(15, 5), 1);
        });
    }

    private static void doorOf() {
        test("11: what 0 to 5", x -> {
            for (int what : new int[] {-1, 6, Integer.MIN_VALUE, Integer.MAX_VALUE}) {
                due("doorOf(3, " + what + ")", x.doorOf(3, what), BAD_VALUE);
            }
        });
        test("11: NO_SUCH if there is no such door", x -> {
            for (int door : NO_DOORS) {
                for (int what = 0; what < 6; what++) {
                    due("doorOf(" + door + ", " + what + ")", x.doorOf(door, what), NO_SUCH);
                }
            }
        });
        test("11: whether it is open (1 or 0)", x -> {
            due("doorOf(2, 2)", x.doorOf(2, 2), 0);
            x.open(2, true);
            due("doorOf(2, 2)", x.doorOf(2, 2), 1);
            x.open(2, false);
            due("doorOf(2, 2)", x.doorOf(2, 2), 0);
        });
        test("11: people who went out by it so far: also when it is closed, and put elsewhere", x -> {
            x.enter(34, 6);
            due("doorOf(3, 3)", x.doorOf(3, 3), 0);
            x.pass(4);
            due("doorOf(3, 3)", x.doorOf(3, 3), 4);
            x.open(3, false);
            x.door(3, 1, 2);
            due("doorOf(3, 3)", x.doorOf(3, 3), 4);
        });
        test("11: cells of which it is the goal, how many: none, and all", x -> {
            due("doorOf(1, 4)", x.doorOf(1, 4), 0);
            x.open(3, false);
            due("doorOf(0, 4)", x.doorOf(0, 4), 35);
            due("doorOf(3, 4)", x.doorOf(3, 4), 0);
            x.open(1, true);
            x.door(1, 0, 1);
            due("doorOf(1, 4), behind a lower one at the cell", x.doorOf(1, 4), 0);
            x.guard(20, 1);
            due("doorOf(1, 4), by a guard", x.doorOf(1, 4), 1);
            due("doorOf(0, 4)", x.doorOf(0, 4), 34);
        });
        test("11: cells of which it is the goal: its own, cut off", x -> {
            x.rope(33, 0, true);
            x.rope(27, 1, true);
            due("doorOf(3, 4)", x.doorOf(3, 4), 1);
            due("doorOf(0, 4)", x.doorOf(0, 4), 34);
        });
        test("11: people in these: none, and the most", x -> {
            due("doorOf(0, 5)", x.doorOf(0, 5), 0);
            x.setRoom(20);
            enterAll(x, 20);
            due("doorOf(0, 5)", x.doorOf(0, 5), 400);
            due("doorOf(3, 5)", x.doorOf(3, 5), 300);
            x.open(3, false);
            due("doorOf(0, 5)", x.doorOf(0, 5), 700);
            x.open(0, false);
            due("doorOf(0, 5)", x.doorOf(0, 5), 0);
        });
    }

    private static void count() {
        test("12: what 0 to 13", x -> {
            for (int what : new int[] {-1, 14, Integer.MIN_VALUE, Integer.MAX_VALUE}) {
                due("count(" + what + ")", x.count(what), BAD_VALUE);
            }
        });
        test("12: people of the full hall, who come in, and who can come to no open door", x -> {
            x.setRoom(20);
            enterAll(x, 20);
            due("count(2)", x.count(2), 700);
            due("count(3)", x.count(3), 700);
            due("count(4)", x.count(4), 0);
            due("count(9)", x.count(9), 0);
            x.open(0, false);
            x.open(3, false);
            due("count(9)", x.count(9), 700);
            due("count(2)", x.count(2), 700);
        });
        test("12: people who came in and who went out so far: all of them", x -> {
            x.enter(0, 6);
            x.pass(6);
            x.enter(0, 6);
            due("count(2)", x.count(2), 6);
            due("count(3)", x.count(3), 12);
            due("count(4)", x.count(4), 6);
            x.pass(99);
            due("count(2)", x.count(2), 0);
            due("count(3)", x.count(3), 12);
            due("count(4)", x.count(4), 12);
        });
        test("12: people who can come to no open door: those at an open one can", x -> {
            x.rope(33, 0, true);
            x.rope(27, 1, true);
            x.enter(34, 5);
            x.enter(27, 4);
            due("count(9)", x.count(9), 0);
            x.open(3, false);
            due("count(9)", x.count(9), 5);
            x.open(0, false);
            due("count(9)", x.count(9), 9);
        });
        test("12: guards, how many: none, and all", x -> {
            due("count(11)", x.count(11), 0);
            for (int cell = 0; cell < 35; cell++) {
                x.guard(cell, cell % 4);
                due("count(11)", x.count(11), cell + 1);
            }
        });
        test("12: the length of the pad: none, and the most", x -> {
            due("count(12)", x.count(12), 0);
            type(x, "~".repeat(60));
            due("count(12)", x.count(12), 60);
        });
        test("12: how many changes can be undone: none, and the most", x -> {
            for (int i = 0; i < 9; i++) {
                due("count(13)", x.count(13), Math.min(6, i));
                x.setRoom(7);
            }
        });
    }

    private static void countUneven() {
        test("12: how uneven it was: 0 with fewer than two open ones", x -> {
            x.enter(0, 4);
            x.pass(4);
            due("count(10) with two", x.count(10), 4);
            x.open(3, false);
            due("count(10) with one", x.count(10), 0);
            x.open(0, false);
            due("count(10) with none", x.count(10), 0);
            x.open(1, true);
            due("count(10) with another one", x.count(10), 0);
            x.open(2, true);
            due("count(10) with two that nobody took", x.count(10), 0);
            x.open(0, true);
            due("count(10) with three", x.count(10), 4);
        });
        test("12: the most people who went out by an open door less the fewest: of four", x -> {
            int[] cells = {0, 6, 28, 34};
            int[] many = {3, 5, 1, 4};
            for (int door = 0; door < 4; door++) {
                x.open(door, true);
                x.enter(cells[door], many[door]);
            }
            x.pass(6);
            due("count(10)", x.count(10), 4);
            x.open(1, false);
            due("count(10) without the most", x.count(10), 3);
            x.open(2, false);
            due("count(10) without the fewest", x.count(10), 1);
        });
        test("12: how uneven it was: as many by each", x -> {
            x.enter(0, 6);
            x.enter(34, 6);
            x.pass(6);
            due("count(10)", x.count(10), 0);
            due("count(4)", x.count(4), 12);
        });
    }

    private static void distance() {
        test("13: NO_SUCH if there is no such cell or door", x -> {
            for (int cell : NO_CELLS) {
                due("distance(" + cell + ", 0)", x.distance(cell, 0), NO_SUCH);
            }
            for (int door : NO_DOORS) {
                due("distance(0, " + door + ")", x.distance(0, door), NO_SUCH);
            }
        });
        test("13: of a cell from a door, open or not", x -> {
            due("distance(3, 1), closed", x.distance(3, 1), 3);
            x.open(1, true);
            due("distance(3, 1), open", x.distance(3, 1), 3);
        });
        test("13: NONE if there is no way, but to the door of the cell itself", x -> {
            x.rope(27, 1, true);
            due("distance(34, 0) with one way", x.distance(34, 0), 10);
            x.rope(33, 0, true);
            for (int door = 0; door < 4; door++) {
                due("distance(34, " + door + ")", x.distance(34, door), door == 3 ? 0 : NONE);
            }
            due("distance(33, 3)", x.distance(33, 3), NONE);
        });
    }

    private static void untilOut() {
        test("14: 0 to 400: 0 in the empty hall", x -> due("untilOut()", x.untilOut(), 0));
        test("14: 0 to 400: 1", x -> {
            x.enter(0, 1);
            due("untilOut()", x.untilOut(), 1);
        });
        test("14: all people who can come to an open door: 0 if nobody can", x -> {
            enterAll(x, 6);
            x.open(0, false);
            x.open(3, false);
            due("untilOut()", x.untilOut(), 0);
        });
        test("14: all people who can come to an open door: the others stay", x -> {
            x.rope(5, 0, true);
            x.rope(6, 1, true);
            x.enter(6, 6);
            x.enter(0, 3);
            due("untilOut()", x.untilOut(), 3);
        });
        test("14: in how many minutes: not one more, not one less", x -> {
            enterAll(x, 5);
            due("untilOut(), 20 cells by the door 0", x.untilOut(), 100);
            x.pass(99);
            due("untilOut() a minute ahead of it", x.untilOut(), 1);
            due("pass(1) lets the last one out", x.pass(1), 1);
            due("count(2)", x.count(2), 0);
            due("untilOut()", x.untilOut(), 0);
        });
    }

    private static void untilOutLimit() {
        test("14: 0 to 400; NONE if it is not by then: 400 and 401 at the door and on the way to it", x -> {
            x.setRoom(20);
            x.open(3, false);
            for (int cell = 0; cell < 20; cell++) {
                x.enter(cell, 20);
            }
            due("untilOut() of 400", x.untilOut(), 400);
            x.enter(34, 1);
            due("untilOut() of 401", x.untilOut(), NONE);
            x.pass(1);
            due("untilOut() of 400", x.untilOut(), 400);
            x.pass(1);
            due("untilOut() of 399", x.untilOut(), 399);
        });
        test("14: NONE if it is not by then: of the full hall", x -> {
            x.setRoom(20);
            enterAll(x, 20);
            due("untilOut() by two doors, 400 by one of them", x.untilOut(), 400);
            x.open(3, false);
            due("untilOut() by one door", x.untilOut(), NONE);
            x.door(0, 0, 9);
            due("untilOut() by a fast one", x.untilOut(), 78);
        });
        test("14: NONE if it is not by then: those who never go", x -> {
            x.setRoom(1);
            block(x, 1);
            due("untilOut()", x.untilOut(), NONE);
            x.pass(99);
            due("untilOut()", x.untilOut(), NONE);
        });
        test("14: the minutes ahead can be above 9999", x -> {
            passTo(x, 9999);
            x.enter(17, 6);
            due("untilOut()", x.untilOut(), 11);
        });
    }

    private static void ifRope() {
        test("15: side 0 or 1, what 0 to 2", x -> {
            for (int bad : new int[] {-1, 2, Integer.MIN_VALUE, Integer.MAX_VALUE}) {
                due("ifRope(0, " + bad + ", 0)", x.ifRope(0, bad, 0), BAD_VALUE);
            }
            for (int bad : new int[] {-1, 3, Integer.MIN_VALUE, Integer.MAX_VALUE}) {
                due("ifRope(0, 0, " + bad + ")", x.ifRope(0, 0, bad), BAD_VALUE);
            }
        });
        test("15: NO_SUCH if there is no such cell", x -> {
            for (int cell : NO_CELLS) {
                due("ifRope(" + cell + ", 0, 0)", x.ifRope(cell, 0, 0), NO_SUCH);
            }
        });
        test("15: NOT_POSSIBLE if there is no cell beside it on this side", x -> {
            for (int cell = 0; cell < 35; cell++) {
                for (int what = 0; what < 3; what++) {
                    due("ifRope(" + cell + ", 0, " + what + ")", x.ifRope(cell, 0, what),
                            cell % 7 == 6 ? NOT_POSSIBLE : 0);
                    due("ifRope(" + cell + ", 1, " + what + ")", x.ifRope(cell, 1, what),
                            cell / 7 == 4 ? NOT_POSSIBLE : 0);
                }
            }
        });
        test("15: taken down if it hangs", x -> {
            x.rope(0, 0, true);
            x.enter(1, 1);
            due("untilOut()", x.untilOut(), 4);
            due("ifRope(0, 0, 0)", x.ifRope(0, 0, 0), 2);
            due("rope(0, 0, false)", x.rope(0, 0, false), 0);
            due("ifRope(0, 0, 0)", x.ifRope(0, 0, 0), 4);
        });
        test("15: (that 24 ropes may hang does not matter): a 25th, and one of the 24", x -> {
            oneLongWay(x);
            x.open(3, false);
            x.enter(34, 1);
            due("rope(33, 0, true)", x.rope(33, 0, true), TOO_MANY);
            due("ifRope(33, 0, 2)", x.ifRope(33, 0, 2), 1);
            due("ifRope(33, 0, 0)", x.ifRope(33, 0, 0), 0);
            due("ifRope(22, 1, 2), taken down", x.ifRope(22, 1, 2), 0);
            due("ifRope(22, 1, 0), taken down", x.ifRope(22, 1, 0), 33);
            due("ifRope(27, 1, 0), taken down", x.ifRope(27, 1, 0), 23);
            due("count(7)", x.count(7), 24);
        });
        test("15: people who can come to no open door: none, and all", x -> {
            x.rope(0, 0, true);
            x.open(3, false);
            for (int cell = 1; cell < 35; cell++) {
                x.enter(cell, 6);
            }
            due("ifRope(0, 1, 2)", x.ifRope(0, 1, 2), 34 * 6);
            due("ifRope(0, 0, 2)", x.ifRope(0, 0, 2), 0);
            due("ifRope(0, 1, 0)", x.ifRope(0, 1, 0), 0);
        });
    }

    private static void ifRopeLimit() {
        test("15: untilOut() then (for 0 perhaps NONE): 400 and 401", x -> {
            x.setRoom(20);
            for (int cell = 0; cell < 20; cell++) {
                x.enter(cell, 20);
            }
            x.open(3, false);
            due("ifRope(33, 0, 0)", x.ifRope(33, 0, 0), 400);
            x.enter(20, 1);
            due("ifRope(33, 0, 0)", x.ifRope(33, 0, 0), NONE);
        });
        test("15: count(10) behind so many minutes: of 400", x -> {
            x.setRoom(20);
            x.rope(33, 0, true);
            for (int cell = 0; cell < 20; cell++) {
                x.enter(cell, 20);
            }
            due("ifRope(27, 1, 0)", x.ifRope(27, 1, 0), 400);
            due("ifRope(27, 1, 1)", x.ifRope(27, 1, 1), 400);
        });
        test("15: count(10) behind so many minutes (behind 400, if that is NONE)", x -> {
            x.setRoom(20);
            x.rope(33, 0, true);
            for (int cell = 0; cell < 21; cell++) {
                x.enter(cell, 20);
            }
            x.enter(34, 3);
            due("ifRope(27, 1, 0)", x.ifRope(27, 1, 0), NONE);
            due("ifRope(27, 1, 1)", x.ifRope(27, 1, 1), 397);
        });
        test("15: count(10), with who went out so far", x -> {
            x.enter(0, 4);
            x.pass(4);
            due("ifRope(16, 0, 1)", x.ifRope(16, 0, 1), 4);
            x.enter(34, 3);
            due("ifRope(16, 0, 1)", x.ifRope(16, 0, 1), 1);
            x.open(3, false);
            due("ifRope(16, 0, 1) with one open door", x.ifRope(16, 0, 1), 0);
        });
    }

    private static void best(RopedHalls x, int edge, int uneven, int until) {
        due("bestRope(0)", x.bestRope(0), edge);
        due("bestRope(1)", x.bestRope(1), uneven);
        due("bestRope(2)", x.bestRope(2), until);
    }

    private static void bestRope() {
        test("16: what 0 to 2", x -> {
            for (int what : new int[] {-1, 3, Integer.MIN_VALUE, Integer.MAX_VALUE}) {
                due("bestRope(" + what + ")", x.bestRope(what), BAD_VALUE);
            }
        });
        test("16: of these the lowest cell, of these the side 0: in the empty hall", x -> best(x, 0, 0, 0));
        test("16: of these the side 0: the side 1 where the side 0 hangs", x -> {
            x.rope(0, 0, true);
            best(x, 1, 0, 0);
        });
        test("16: the edge without a rope: the next cell where both hang", x -> {
            x.rope(0, 0, true);
            x.rope(0, 1, true);
            best(x, 2, 0, 0);
        });
        test("16: 2 times the cell and the side, together: at the end of a row there is the side 1 alone", x -> {
            for (int cell = 0; cell < 6; cell++) {
                x.rope(cell, 0, true);
                x.rope(cell, 1, true);
            }
            best(x, 2 * 6 + 1, 0, 0);
        });
        test("16: 2 times the cell and the side, together: the last one to the right", x -> {
            x.door(0, 34, 1);
            x.door(3, 32, 1);
            x.enter(33, 1);
            x.enter(34, 1);
            best(x, 2 * 33, 0, 2);
        });
        test("16: 2 times the cell and the side, together: the last one below", x -> {
            x.door(3, 26, 1);
            x.door(0, 34, 1);
            x.enter(27, 1);
            x.enter(34, 1);
            best(x, 2 * 27 + 1, 0, 2);
        });
        test("16: (That 24 ropes may hang does not matter.)", x -> {
            oneLongWay(x);
            due("rope(0, 0, true)", x.rope(0, 0, true), TOO_MANY);
            best(x, 0, 0, 0);
            due("count(7)", x.count(7), 24);
        });
    }

    private static void bestRopeChoice() {
        test("16: it is the most even: also if it takes longer", x -> {
            x.door(0, 14, 1);
            x.door(3, 27, 1);
            x.enter(14, 1);
            x.enter(17, 1);
            due("ifRope(0, 0, 1)", x.ifRope(0, 0, 1), 2);
            due("ifRope(0, 0, 0)", x.ifRope(0, 0, 0), 4);
            best(x, 2 * 14, 0, 5);
        });
        test("16: of several the one with the least untilOut()", x -> {
            x.enter(1, 1);
            due("ifRope(0, 0, 1)", x.ifRope(0, 0, 1), 1);
            due("ifRope(0, 0, 0)", x.ifRope(0, 0, 0), 4);
            best(x, 1, 1, 2);
        });
        test("16: nobody more can come to no open door: also if it were more even", x -> {
            x.rope(6, 1, true);
            x.enter(6, 1);
            due("ifRope(5, 0, 1)", x.ifRope(5, 0, 1), 0);
            due("ifRope(5, 0, 2)", x.ifRope(5, 0, 2), 1);
            best(x, 0, 1, 7);
        });
        test("16: nobody more can come to no open door: who cannot come anyway does not matter", x -> {
            x.rope(6, 1, true);
            x.rope(5, 0, true);
            x.enter(6, 6);
            x.enter(1, 1);
            due("count(9)", x.count(9), 6);
            best(x, 1, 1, 2);
        });
        test("16: nobody more can come to no open door: an empty cell can be cut off", x -> {
            x.rope(0, 0, true);
            x.open(0, false);
            x.open(1, true);
            best(x, 1, 0, 0);
        });
        test("16: untilOut() is not NONE: the one rope that parts those who never go", x -> {
            x.setRoom(1);
            block(x, 5);
            due("untilOut()", x.untilOut(), NONE);
            due("ifRope(0, 0, 1)", x.ifRope(0, 0, 1), 0);
            best(x, 2 * 5, 2, 6);
        });
        test("16: untilOut() is not NONE: 400 is not", x -> {
            x.setRoom(20);
            x.open(3, false);
            for (int cell = 0; cell < 20; cell++) {
                x.enter(cell, 20);
            }
            due("untilOut()", x.untilOut(), 400);
            due("bestRope(1)", x.bestRope(1), 0);
            due("bestRope(2)", x.bestRope(2), 400);
        });
    }

    private static void bestRopeNone() {
        test("16: NONE if there is none: each would cut somebody off", x -> {
            oneLongWay(x);
            x.open(3, false);
            x.enter(34, 1);
            best(x, NONE, NONE, NONE);
        });
        test("16: NONE if there is none: untilOut() is NONE with each", x -> {
            x.setRoom(1);
            block(x, 1);
            block(x, 5);
            best(x, NONE, NONE, NONE);
        });
        test("16: NONE if there is none: each would be one minute too long", x -> {
            x.setRoom(20);
            x.open(3, false);
            for (int cell = 0; cell < 20; cell++) {
                x.enter(cell, 20);
            }
            x.enter(20, 1);
            best(x, NONE, NONE, NONE);
        });
    }

    private static void whatIfsChangeNothing() {
        Consumer<Consumer<RopedHalls>> unchanged = call -> test("what if; nothing changes", x -> {
            x.enter(16, 6);
            x.enter(17, 6);
            x.guard(9, 3);
            x.rope(8, 0, true);
            x.pass(1);
            x.put(97);
            int[] before = look(x);
            call.accept(x);
            same("behind it", look(x), before);
        });
        unchanged.accept(x -> x.untilOut());
        unchanged.accept(x -> x.waiting());
        unchanged.accept(x -> x.ifRope(16, 0, 0));
        unchanged.accept(x -> x.ifRope(8, 0, 1));
        unchanged.accept(x -> x.ifRope(8, 0, 2));
        unchanged.accept(x -> x.bestRope(0));
    }

    private static void waiting() {
        test("17: none in the empty hall", x -> due("waiting()", x.waiting(), 0));
        test("17: until all are out who can come to an open door: none if nobody can", x -> {
            enterAll(x, 6);
            x.open(0, false);
            x.open(3, false);
            due("waiting()", x.waiting(), 0);
        });
        test("17: until all are out: as many as are counted when they are", x -> {
            enterAll(x, 5);
            int waiting = x.waiting();
            x.pass(99);
            x.pass(1);
            due("count(2)", x.count(2), 0);
            due("count(5)", x.count(5), waiting);
        });
        test("17: from now on: without those so far", x -> {
            x.enter(0, 6);
            x.enter(1, 6);
            due("waiting()", x.waiting(), 5 + 4 + 3 + 2 + 1);
            x.pass(1);
            due("waiting()", x.waiting(), 4 + 3 + 2 + 1);
            x.pass(3);
            due("waiting()", x.waiting(), 1);
            x.pass(1);
            due("waiting()", x.waiting(), 0);
            due("count(5)", x.count(5), 15);
        });
        test("17: (in 400 minutes, if they are not out by then): those who never go", x -> {
            x.setRoom(1);
            block(x, 1);
            due("waiting()", x.waiting(), 2 * 400);
            x.pass(1);
            due("waiting()", x.waiting(), 2 * 400);
        });
        test("17: (in 400 minutes, if they are not out by then): 700 by one door", x -> {
            x.setRoom(20);
            x.open(3, false);
            enterAll(x, 20);
            int waiting = x.waiting();
            for (int i = 0; i < 4; i++) {
                x.pass(99);
            }
            x.pass(4);
            due("count(5) behind 400 minutes", x.count(5), waiting);
            due("those who are not out wait on", Math.min(1, x.waiting()), 1);
        });
    }

    private static void put() {
        test("18: 1 to 8 characters", x -> {
            int length = 0;
            for (int many = 1; many <= 8; many++) {
                length += many;
                due("put of " + many, x.put(number("!~!~!~!~".substring(0, many))), length);
            }
        });
        test("18: the lowest 8 bits are the last character", x -> {
            due("put(\"a1:2,b1:\")", x.put(number("a1:2,b1:")), 8);
            due("put(\"10\")", x.put((long) '1' << 8 | '0'), 10);
            due("read()", x.read(), 2 + 6);
            due("cell(1, 0)", x.cell(1, 0), 6);
        });
        test("18: BAD_VALUE if there is no character", x -> due("put(0)", x.put(0), BAD_VALUE));
        test("18: TOO_MANY if the pad would be longer than 60: 8 behind 52 and 53", x -> {
            type(x, "x".repeat(52));
            due("put of 8 behind 52", x.put(number("xxxxxxxx")), 60);
            x.wipe();
            type(x, "x".repeat(53));
            due("put of 8 behind 53", x.put(number("xxxxxxxx")), TOO_MANY);
            due("count(12)", x.count(12), 53);
            due("put of 7 behind 53", x.put(number("xxxxxxx")), 60);
        });
        test("18: TOO_MANY if the pad would be longer than 60: 1 behind 59 and 60", x -> {
            type(x, "x".repeat(59));
            due("put of 2 behind 59", x.put(number("xx")), TOO_MANY);
            due("put of 1 behind 59", x.put(120), 60);
            due("put of 1 behind 60", x.put(120), TOO_MANY);
            due("count(12)", x.count(12), 60);
        });
    }

    private static void putEachCode() {
        for (int many = 1; many <= 8; many++) {
            for (int place = 0; place < many; place++) {
                int shift = 8 * place;
                long others = number("aaaaaaaa".substring(8 - many)) & ~(255L << shift);
                int length = many;
                test("18: BAD_VALUE if a code is not 33 to 126: " + many + " characters, place " + place, x -> {
                    for (int code = 1; code < 256; code++) {
                        boolean isGood = code >= 33 && code <= 126;
                        due("put with " + code, x.put(others | (long) code << shift), isGood ? length : BAD_VALUE);
                        if (isGood) {
                            x.wipe();
                        }
                    }
                });
            }
        }
    }

    private static void putZeros() {
        for (int many = 1; many <= 7; many++) {
            long characters = number("aaaaaaa".substring(7 - many));
            int first = 8 * (many + 1);
            test("18: BAD_VALUE if a bit above 8 bits that are 0 is not 0: " + many + " characters", x -> {
                for (int bit = first; bit < 64; bit++) {
                    due("put with the bit " + bit, x.put(characters | 1L << bit), BAD_VALUE);
                }
                due("count(12)", x.count(12), 0);
            });
        }
        test("18: BAD_VALUE if a bit above 8 bits that are 0 is not 0: with no character", x -> {
            for (int bit = 8; bit < 64; bit++) {
                due("put of the bit " + bit, x.put(1L << bit), BAD_VALUE);
            }
        });
    }

    private static void wipe() {
        test("19: the length that it had: empty", x -> {
            due("wipe()", x.wipe(), 0);
            due("count(12)", x.count(12), 0);
        });
        test("19: the length that it had: the most", x -> {
            type(x, "a1:10" + ",b1:1".repeat(11));
            due("wipe()", x.wipe(), 60);
            due("wipe()", x.wipe(), 0);
            due("fault()", x.fault(), 0);
            due("put(97)", x.put(97), 1);
        });
    }

    private static void fault() {
        test("20: the fault of the pad: of the empty one, and of one that was emptied", x -> {
            due("fault()", x.fault(), 0);
            type(x, "a1:1");
            due("fault()", x.fault(), NONE);
            x.read();
            due("fault()", x.fault(), 0);
        });
        test("20: NONE if there is none: 60 characters", x -> {
            type(x, "a1:10" + ",b1:1".repeat(11));
            due("fault()", x.fault(), NONE);
            due("count(12)", x.count(12), 60);
        });
        test("20: nothing changes", x -> {
            type(x, "a1:1,h");
            due("fault()", x.fault(), 5);
            due("fault()", x.fault(), 5);
            due("count(12)", x.count(12), 6);
            due("count(13)", x.count(13), 0);
        });
    }

    private static void undo() {
        test("21: NOT_POSSIBLE if there is none", x -> {
            due("undo()", x.undo(), NOT_POSSIBLE);
            x.enter(0, 1);
            due("undo()", x.undo(), 0);
            due("undo()", x.undo(), NOT_POSSIBLE);
            due("count(2)", x.count(2), 0);
        });
        for (int changes = 1; changes <= 14; changes++) {
            int many = changes;
            test("21: at most 6 states; when one more is recorded, the oldest one is dropped: " + many, x -> {
                for (int i = 1; i <= many; i++) {
                    x.setRoom(i);
                }
                int kept = Math.min(6, many);
                due("count(13)", x.count(13), kept);
                for (int i = 1; i <= kept; i++) {
                    due("undo()", x.undo(), kept - i);
                    due("count(0)", x.count(0), many == i ? 6 : many - i);
                }
                due("undo()", x.undo(), NOT_POSSIBLE);
                due("count(0)", x.count(0), many <= 6 ? 6 : many - 6);
            });
        }
        test("21: the latest change: those that were undone are gone", x -> {
            x.setRoom(1);
            x.setRoom(2);
            x.setRoom(3);
            x.undo();
            x.undo();
            x.setRoom(4);
            due("count(13)", x.count(13), 2);
            due("undo()", x.undo(), 1);
            due("count(0)", x.count(0), 1);
            due("undo()", x.undo(), 0);
            due("count(0)", x.count(0), 6);
        });
    }

    private static void undone(String call, int answer, ToIntFunction<RopedHalls> change) {
        test("21: each method that is a change records the state before it: " + call, x -> {
            x.enter(0, 6);
            x.save(1);
            x.enter(1, 6);
            x.guard(17, 1);
            type(x, "c1:2");
            int[] before = look(x);
            int pad = x.count(12);
            due(call, change.applyAsInt(x), answer);
            due("count(13)", x.count(13), 4);
            x.wipe();
            type(x, "c1:2");
            due("undo()", x.undo(), 3);
            due("count(12)", x.count(12), pad);
            same("behind undo()", look(x), before);
        });
    }

    private static void undoOfEachChange() {
        undone("setRoom(20)", 6, x -> x.setRoom(20));
        undone("rope(0, 1, true)", 1, x -> x.rope(0, 1, true));
        undone("door(3, 3, 9)", 34, x -> x.door(3, 3, 9));
        undone("open(0, false)", 1, x -> x.open(0, false));
        undone("guard(17, 3)", 3, x -> x.guard(17, 3));
        undone("guard(17, -1)", 0, x -> x.guard(17, -1));
        undone("enter(34, 6)", 6, x -> x.enter(34, 6));
        undone("read()", 2, x -> x.read());
        undone("pass(99)", 12, x -> x.pass(99));
        undone("restore(1)", 6, x -> x.restore(1));
        undone("setRoom(6), nothing is different", 6, x -> x.setRoom(6));
        undone("door(0, 0, 1), nothing is different", 0, x -> x.door(0, 0, 1));
        undone("guard(17, 1), nothing is different", 0, x -> x.guard(17, 1));
        undone("guard(16, -1), nothing is different", 0, x -> x.guard(16, -1));
        test("21: also if nothing is different then: read() into a full cell", x -> {
            x.enter(0, 6);
            type(x, "a1:1");
            due("read()", x.read(), 0);
            due("count(13)", x.count(13), 2);
            due("undo()", x.undo(), 1);
            due("count(2)", x.count(2), 6);
        });
        test("21: also if nothing is different then: restore(0) of what is", x -> {
            x.save(0);
            due("restore(0)", x.restore(0), 0);
            due("count(13)", x.count(13), 1);
        });
        test("21: what is no change records nothing", x -> {
            x.enter(0, 1);
            look(x);
            x.distance(3, 3);
            x.ifRope(0, 0, 0);
            x.bestRope(0);
            x.put(97);
            x.fault();
            x.wipe();
            x.save(0);
            due("count(13)", x.count(13), 1);
            due("undo()", x.undo(), 0);
            due("count(2)", x.count(2), 0);
        });
    }

    private static void undoKeeps() {
        test("21: everything except the pad: what was put stays", x -> {
            x.enter(0, 1);
            type(x, "b1:2");
            x.undo();
            due("count(12)", x.count(12), 4);
            due("read()", x.read(), 2);
        });
        test("21: everything except the pad: what was read does not come back", x -> {
            type(x, "b1:2");
            x.read();
            due("undo()", x.undo(), 0);
            due("count(2)", x.count(2), 0);
            due("count(12)", x.count(12), 0);
            due("fault()", x.fault(), 0);
        });
        test("21: everything except the slots: what was saved stays", x -> {
            x.enter(0, 1);
            x.save(0);
            x.undo();
            due("restore(0)", x.restore(0), 1);
            due("undo()", x.undo(), 0);
            due("count(2)", x.count(2), 0);
            due("restore(0) again", x.restore(0), 1);
        });
        test("21: everything except the history: the states ahead stay", x -> {
            x.setRoom(1);
            x.setRoom(2);
            x.save(0);
            x.setRoom(3);
            x.restore(0);
            due("count(13)", x.count(13), 4);
            due("undo()", x.undo(), 3);
            due("count(0)", x.count(0), 3);
            due("undo()", x.undo(), 2);
            due("count(0)", x.count(0), 2);
            due("undo()", x.undo(), 1);
            due("count(0)", x.count(0), 1);
        });
    }

    private static void save() {
        test("22: slot 0 or 1", x -> {
            for (int slot : new int[] {-1, 2, Integer.MIN_VALUE, Integer.MAX_VALUE}) {
                due("save(" + slot + ")", x.save(slot), BAD_VALUE);
            }
            due("save(0)", x.save(0), 0);
            due("restore(1)", x.restore(1), NOT_POSSIBLE);
            due("save(1)", x.save(1), 0);
            due("restore(1)", x.restore(1), 0);
        });
        test("22: returns how many people are in the hall: all that there can be", x -> {
            x.setRoom(20);
            enterAll(x, 20);
            due("save(1)", x.save(1), 700);
            x.pass(1);
            due("save(0)", x.save(0), 698);
            due("restore(1)", x.restore(1), 700);
            due("restore(0)", x.restore(0), 698);
        });
        test("22: overwrites what was saved there, and not in the other one", x -> {
            x.enter(0, 1);
            x.save(0);
            x.save(1);
            x.enter(0, 1);
            due("save(0)", x.save(0), 2);
            x.enter(0, 1);
            due("restore(1)", x.restore(1), 1);
            due("restore(0)", x.restore(0), 2);
        });
        test("22: everything except the pad and the history", x -> {
            x.enter(0, 1);
            type(x, "b1:2");
            x.save(0);
            x.wipe();
            x.put(97);
            x.enter(0, 1);
            due("restore(0)", x.restore(0), 1);
            due("count(12)", x.count(12), 1);
            due("count(13)", x.count(13), 3);
        });
    }

    private static void restore() {
        test("23: slot 0 or 1", x -> {
            x.save(0);
            x.save(1);
            for (int slot : new int[] {-1, 2, Integer.MIN_VALUE, Integer.MAX_VALUE}) {
                due("restore(" + slot + ")", x.restore(slot), BAD_VALUE);
            }
            due("count(13)", x.count(13), 0);
        });
        test("23: NOT_POSSIBLE if nothing was saved in it", x -> {
            due("restore(0)", x.restore(0), NOT_POSSIBLE);
            x.save(1);
            due("restore(0)", x.restore(0), NOT_POSSIBLE);
            due("restore(1)", x.restore(1), 0);
        });
        test("23: a slot, which keeps it: behind changes to what was restored", x -> {
            x.enter(3, 4);
            x.save(0);
            int[] before = look(x);
            for (int i = 0; i < 3; i++) {
                x.pass(2);
                x.setRoom(9);
                x.rope(17, 0, true);
                x.door(1, 1, 2);
                x.open(1, true);
                x.guard(3, 3);
                x.enter(5, 1);
                due("restore(0)", x.restore(0), 4);
            }
            before[13] = 6;
            same("behind restore(0)", look(x), before);
        });
        test("23: what was saved last: everything of a full hall", x -> {
            x.setRoom(20);
            oneLongWay(x);
            enterAll(x, 20);
            for (int cell = 0; cell < 35; cell++) {
                x.guard(cell, cell % 4);
            }
            for (int door = 0; door < 4; door++) {
                x.door(door, 34 - door, 9 - door);
            }
            x.open(0, false);
            x.pass(3);
            x.save(1);
            int[] before = look(x);
            x.pass(50);
            x.open(0, true);
            for (int door = 0; door < 4; door++) {
                x.door(door, door, 1);
            }
            due("restore(1)", x.restore(1), before[2]);
            for (int what = 0; what < 12; what++) {
                due("count(" + what + ")", x.count(what), before[what]);
            }
        });
        test("23: this is a change: undo() brings back what was", x -> {
            x.save(0);
            x.enter(0, 5);
            due("restore(0)", x.restore(0), 0);
            due("undo()", x.undo(), 1);
            due("cell(0, 0)", x.cell(0, 0), 5);
        });
    }

    private static void calls() {
        test("An object is used for at most 512 calls: the last one", x -> {
            for (int i = 1; i < 512; i++) {
                due("setRoom at the call " + i, x.setRoom(1 + i % 20), i == 1 ? 6 : 1 + (i - 1) % 20);
            }
            due("undo() at the call 512", x.undo(), 5);
        });
        test("An object is used for at most 512 calls: the dearest one each time", x -> {
            x.setRoom(20);
            enterAll(x, 20);
            for (int i = 36; i < 512; i++) {
                due("bestRope(2) at the call " + (i + 1), x.bestRope(2), 380);
            }
        });
    }
}
