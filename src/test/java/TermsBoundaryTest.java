/** The boundary cases that the section "Terms" of the document names, a test of its own for each. */
public final class TermsBoundaryTest extends Checks {
    private static final int[][] WAYS = {{0, -1}, {-1, 0}, {1, 0}, {0, 1}};
    private static final String[] WAY_NAMES = {"above", "left", "right", "below"};

    public static void main(String[] args) {
        conventions();
        settings();
        numbersOfCells();
        cellsBeside();
        edges();
        ropes();
        doors();
        distances();
        guards();
        goals();
        goalsOfPairs();
        nextCells();
        nextOfTwoWays();
        minuteCount();
        minuteDoors();
        minuteOrder();
        minuteRoom();
        minuteNobodyTwice();
        minuteAfterMinute();
        minuteWithoutTurn();
        texts();
        textsCharacterByCharacter();
        finish();
    }

    private static void conventions() {
        test("Everything is numbered from 0: the first ones", x -> {
            due("door(0, 0, 1)", x.door(0, 0, 1), 0);
            due("rope(0, 0, true)", x.rope(0, 0, true), 1);
            due("guard(0, 0)", x.guard(0, 0), 0);
            due("enter(0, 1)", x.enter(0, 1), 1);
            due("cell(0, 0)", x.cell(0, 0), 1);
            due("doorOf(0, 0)", x.doorOf(0, 0), 0);
            due("count(0)", x.count(0), 6);
            due("distance(0, 0)", x.distance(0, 0), 0);
            due("ifRope(0, 0, 0)", x.ifRope(0, 0, 0), 1);
            due("bestRope(0)", x.bestRope(0), 1);
            due("save(0)", x.save(0), 1);
            due("restore(0)", x.restore(0), 1);
        });
        test("Everything is numbered from 0: the last ones", x -> {
            due("door(3, 34, 1)", x.door(3, 34, 1), 34);
            due("rope(27, 1, true)", x.rope(27, 1, true), 1);
            due("guard(34, 3)", x.guard(34, 3), 3);
            due("enter(34, 1)", x.enter(34, 1), 1);
            due("cell(34, 5)", x.cell(34, 5), 1);
            due("doorOf(3, 5)", x.doorOf(3, 5), 1);
            due("count(13)", x.count(13), 4);
            due("distance(34, 3)", x.distance(34, 3), 0);
            due("ifRope(33, 0, 2)", x.ifRope(33, 0, 2), 0);
            due("bestRope(2)", x.bestRope(2), 1);
            due("save(1)", x.save(1), 1);
            due("restore(1)", x.restore(1), 1);
        });
        test("Sets are bit masks: all sets of open doors", x -> {
            for (int set = 0; set < 16; set++) {
                for (int door = 0; door < 4; door++) {
                    x.open(door, (set & 1 << door) != 0);
                }
                due("count(8)", x.count(8), set);
            }
        });
        test("Sets are bit masks: all sets of ropes of a cell", x -> {
            for (int set = 0; set < 16; set++) {
                x.rope(10, 1, (set & 1) != 0);
                x.rope(16, 0, (set & 2) != 0);
                x.rope(17, 0, (set & 4) != 0);
                x.rope(17, 1, (set & 8) != 0);
                due("cell(17, 5)", x.cell(17, 5), set);
            }
        });
    }

    private static void settings() {
        test("ROOM (1 to 20; 6): first 6", x -> {
            due("count(0)", x.count(0), 6);
            due("enter(0, 7)", x.enter(0, 7), TOO_MANY);
            due("enter(0, 6)", x.enter(0, 6), 6);
        });
        test("ROOM (1 to 20; 6): the least", x -> {
            due("setRoom(0)", x.setRoom(0), BAD_VALUE);
            due("setRoom(1)", x.setRoom(1), 6);
            due("enter(0, 2)", x.enter(0, 2), TOO_MANY);
            due("enter(0, 1)", x.enter(0, 1), 1);
            due("enter(0, 1)", x.enter(0, 1), TOO_MANY);
        });
        test("ROOM (1 to 20; 6): the greatest", x -> {
            due("setRoom(21)", x.setRoom(21), BAD_VALUE);
            due("setRoom(20)", x.setRoom(20), 6);
            due("enter(0, 20)", x.enter(0, 20), 20);
            due("enter(0, 1)", x.enter(0, 1), TOO_MANY);
        });
    }

    private static void numbersOfCells() {
        for (int at = 0; at < 35; at++) {
            int place = at;
            test("The cell in the column x and the row y has the number 7 * y + x: a door at " + at, x -> {
                x.door(2, place, 1);
                for (int cell = 0; cell < 35; cell++) {
                    int steps = Math.abs(cell % 7 - place % 7) + Math.abs(cell / 7 - place / 7);
                    due("distance(" + cell + ", 2)", x.distance(cell, 2), steps);
                }
            });
        }
    }

    private static boolean isBeside(int cell, int way) {
        int column = cell % 7 + WAYS[way][0];
        int row = cell / 7 + WAYS[way][1];
        return column >= 0 && column < 7 && row >= 0 && row < 5;
    }

    private static int beside(int cell, int way) {
        return cell + WAYS[way][0] + 7 * WAYS[way][1];
    }

    /** An edge is told by the one of both cells with the lower number. */
    private static int rope(RopedHalls x, int cell, int way, boolean hangs) {
        return x.rope(Math.min(cell, beside(cell, way)), way == 0 || way == 3 ? 1 : 0, hangs);
    }

    /** With ropes on all sides a cell is cut off; without one of them there is just the cell behind it. */
    private static void cellsBeside() {
        for (int one = 0; one < 35; one++) {
            int cell = one;
            test("Beside it are the cells above, to the left, to the right and below: the cell " + cell, x -> {
                x.door(1, cell, 1);
                int sides = 0;
                for (int way = 0; way < 4; way++) {
                    if (isBeside(cell, way)) {
                        rope(x, cell, way, true);
                        sides |= 1 << way;
                    }
                }
                due("cell(" + cell + ", 5)", x.cell(cell, 5), sides);
                due("count(7)", x.count(7), Integer.bitCount(sides));
                for (int other = 0; other < 35; other++) {
                    due("distance(" + other + ", 1)", x.distance(other, 1), other == cell ? 0 : NONE);
                }
                for (int way = 0; way < 4; way++) {
                    if (isBeside(cell, way)) {
                        rope(x, cell, way, false);
                        due("distance of the one " + WAY_NAMES[way], x.distance(beside(cell, way), 1), 1);
                        rope(x, cell, way, true);
                    }
                }
            });
        }
    }

    private static void edges() {
        for (int i = 0; i < 70; i++) {
            int cell = i / 2;
            int side = i % 2;
            int way = side == 0 ? 2 : 3;
            String call = "rope(" + cell + ", " + side + ", ";
            if (!isBeside(cell, way)) {
                test("As far as there are such: no edge at the cell " + cell + ", side " + side, x -> {
                    due(call + "true)", x.rope(cell, side, true), NOT_POSSIBLE);
                    due(call + "false)", x.rope(cell, side, false), NOT_POSSIBLE);
                    due("count(7)", x.count(7), 0);
                });
                continue;
            }
            test("Its side: 0 to the right, 1 below: the cell " + cell + ", side " + side, x -> {
                int other = beside(cell, way);
                x.door(1, other, 1);
                due("distance ahead of it", x.distance(cell, 1), 1);
                due(call + "true)", x.rope(cell, side, true), 1);
                for (int one = 0; one < 35; one++) {
                    int ropes = one == cell ? 4 << side : one == other ? 2 >> side : 0;
                    due("cell(" + one + ", 5)", x.cell(one, 5), ropes);
                }
                due("distance behind it", x.distance(cell, 1), 3);
                due(call + "false)", x.rope(cell, side, false), 0);
                due("distance without it", x.distance(cell, 1), 1);
            });
        }
    }

    private static void ropes() {
        test("There are at most 24 ropes (none at first): none", x -> {
            due("count(7)", x.count(7), 0);
            for (int cell = 0; cell < 35; cell++) {
                due("cell(" + cell + ", 5)", x.cell(cell, 5), 0);
            }
        });
        test("There are at most 24 ropes (none at first): 24", x -> {
            oneLongWay(x);
            due("count(7)", x.count(7), 24);
            due("rope(0, 0, true)", x.rope(0, 0, true), TOO_MANY);
            due("count(7)", x.count(7), 24);
        });
        test("Never over a rope: people do not go over it, either", x -> {
            x.rope(0, 0, true);
            x.enter(1, 2);
            x.pass(1);
            due("cell(0, 0)", x.cell(0, 0), 0);
            due("cell(8, 0)", x.cell(8, 0), 2);
        });
    }

    private static void doors() {
        test("At first the door 0 is at the cell 0, 1 at 6, 2 at 28, 3 at 34, each with the rate 1", x -> {
            int[] cells = {0, 6, 28, 34};
            for (int door = 0; door < 4; door++) {
                due("doorOf(" + door + ", 0)", x.doorOf(door, 0), cells[door]);
                due("doorOf(" + door + ", 1)", x.doorOf(door, 1), 1);
            }
        });
        test("At first the doors 0 and 3 are open", x -> {
            due("count(8)", x.count(8), 1 + 8);
            for (int door = 0; door < 4; door++) {
                due("doorOf(" + door + ", 2)", x.doorOf(door, 2), door % 3 == 0 ? 1 : 0);
            }
        });
        test("With a rate, 1 to 9 people a minute: the least and the greatest", x -> {
            due("door(0, 0, 0)", x.door(0, 0, 0), BAD_VALUE);
            due("door(0, 0, 10)", x.door(0, 0, 10), BAD_VALUE);
            x.setRoom(20);
            x.enter(0, 20);
            due("door(0, 0, 1)", x.door(0, 0, 1), 0);
            due("pass(1)", x.pass(1), 1);
            due("door(0, 0, 9)", x.door(0, 0, 9), 0);
            due("pass(1)", x.pass(1), 9);
        });
        test("(Several can be at the same cell.) All four", x -> {
            for (int door = 0; door < 4; door++) {
                x.door(door, 17, door + 1);
                x.open(door, true);
            }
            x.setRoom(20);
            x.enter(17, 11);
            due("pass(1)", x.pass(1), 10);
            for (int door = 0; door < 4; door++) {
                due("doorOf(" + door + ", 3)", x.doorOf(door, 3), door + 1);
            }
        });
    }

    private static void distances() {
        test("The fewest steps from it to the cell of the door: none at the cell of the door", x -> {
            for (int door = 0; door < 4; door++) {
                due("distance(" + x.doorOf(door, 0) + ", " + door + ")", x.distance(x.doorOf(door, 0), door), 0);
            }
        });
        test("The fewest steps: of a long and a short way the short one", x -> {
            x.door(1, 16, 1);
            x.rope(16, 0, true);
            due("distance(17, 1)", x.distance(17, 1), 3);
            x.rope(9, 0, true);
            x.rope(23, 0, true);
            due("distance(17, 1) with a wall of 3", x.distance(17, 1), 5);
            x.rope(2, 0, true);
            due("distance(17, 1), open below alone", x.distance(17, 1), 5);
            x.rope(30, 0, true);
            due("distance(17, 1) with a whole wall", x.distance(17, 1), NONE);
        });
        test("The fewest steps: the most that there can be", x -> {
            oneLongWay(x);
            due("distance(34, 0)", x.distance(34, 0), 34);
            due("distance(0, 3)", x.distance(0, 3), 34);
            for (int cell = 0; cell < 35; cell++) {
                int steps = cell / 7 % 2 == 0 ? cell : 7 * (cell / 7) + 6 - cell % 7;
                due("distance(" + cell + ", 0)", x.distance(cell, 0), steps);
            }
        });
        test("There can be none: the hall in two", x -> {
            for (int row = 0; row < 5; row++) {
                x.rope(7 * row + 3, 0, true);
            }
            for (int cell = 0; cell < 35; cell++) {
                boolean isLeft = cell % 7 < 4;
                int steps = cell % 7 + cell / 7;
                due("distance(" + cell + ", 0)", x.distance(cell, 0), isLeft ? steps : NONE);
                due("distance(" + cell + ", 3)", x.distance(cell, 3), isLeft ? NONE : 10 - steps);
            }
        });
    }

    private static void guards() {
        test("A guard sends as long as this door is open", x -> {
            due("guard(1, 1), closed", x.guard(1, 1), 0);
            x.open(1, true);
            due("cell(1, 1), open", x.cell(1, 1), 1);
            x.open(1, false);
            due("cell(1, 1), closed again", x.cell(1, 1), 0);
        });
        test("A guard sends as long as this door can be come to", x -> {
            x.rope(33, 0, true);
            due("guard(1, 3)", x.guard(1, 3), 3);
            x.rope(27, 1, true);
            due("cell(1, 1), no way any more", x.cell(1, 1), 0);
            due("cell(1, 4), the guard stays", x.cell(1, 4), 3);
            x.rope(33, 0, false);
            due("cell(1, 1), a way again", x.cell(1, 1), 3);
        });
        test("A guard sends those of his cell alone", x -> {
            x.guard(8, 3);
            due("cell(8, 1)", x.cell(8, 1), 3);
            for (int beside : new int[] {1, 7, 9, 15}) {
                due("cell(" + beside + ", 1)", x.cell(beside, 1), 0);
            }
        });
        test("A guard can send to the door of his own cell", x -> {
            x.door(3, 0, 1);
            due("guard(0, 3)", x.guard(0, 3), 3);
            due("cell(0, 2)", x.cell(0, 2), 0);
            due("cell(0, 3)", x.cell(0, 3), NONE);
        });
        test("A guard can send away from a door", x -> {
            due("guard(0, 3)", x.guard(0, 3), 3);
            due("cell(0, 2)", x.cell(0, 2), 10);
            due("cell(0, 3)", x.cell(0, 3), 1);
        });
    }

    private static void goals() {
        test("Otherwise the open door with the least distance, of several the lowest: all four, as far", x -> {
            int[] cells = {24, 18, 16, 10};
            for (int door = 0; door < 4; door++) {
                x.door(door, cells[door], 1);
                x.open(door, true);
            }
            for (int door = 0; door < 4; door++) {
                due("cell(17, 1)", x.cell(17, 1), door);
                due("cell(17, 2)", x.cell(17, 2), 1);
                x.open(door, false);
            }
            due("cell(17, 1) with no open door", x.cell(17, 1), NONE);
        });
        test("It has none, if it can come to no open door: none is open", x -> {
            x.open(0, false);
            due("cell(0, 1)", x.cell(0, 1), 3);
            x.open(3, false);
            for (int cell = 0; cell < 35; cell++) {
                due("cell(" + cell + ", 1)", x.cell(cell, 1), NONE);
            }
        });
        test("It has none, if it can come to no open door: there is no way to one", x -> {
            x.rope(5, 0, true);
            due("cell(6, 1) with one way", x.cell(6, 1), 3);
            x.rope(6, 1, true);
            due("cell(6, 1)", x.cell(6, 1), NONE);
            due("cell(5, 1)", x.cell(5, 1), 0);
            due("distance(6, 1) of the closed one", x.distance(6, 1), 0);
            x.open(1, true);
            due("cell(6, 1) with a door of its own", x.cell(6, 1), 1);
        });
    }

    private static void goalsOfPairs() {
        for (int pair = 0; pair < 16; pair++) {
            int low = pair / 4;
            int high = pair % 4;
            if (low >= high) {
                continue;
            }
            test("Of several the lowest: the doors " + low + " and " + high, x -> {
                for (int door = 0; door < 4; door++) {
                    x.open(door, door == low || door == high);
                }
                x.door(low, 34, 1);
                x.door(high, 0, 1);
                due("cell(17, 1), both 5 steps away", x.cell(17, 1), low);
                due("cell(16, 1), the higher one nearer", x.cell(16, 1), high);
                due("cell(18, 1), the lower one nearer", x.cell(18, 1), low);
                x.door(low, 0, 1);
                x.door(high, 34, 1);
                due("cell(17, 1), the other way round", x.cell(17, 1), low);
                x.door(low, 34, 1);
                due("cell(34, 1), both at the cell", x.cell(34, 1), low);
                due("guard(17, the higher one)", x.guard(17, high), high);
            });
        }
    }

    private static void nextCells() {
        test("The next cell of a cell with a goal, that is not the cell of the goal: at the goal none", x -> {
            due("cell(0, 3)", x.cell(0, 3), NONE);
            due("cell(34, 3)", x.cell(34, 3), NONE);
            due("cell(1, 3)", x.cell(1, 3), 0);
            due("cell(27, 3)", x.cell(27, 3), 34);
        });
        test("The next cell of a cell with a goal: without one none", x -> {
            x.open(0, false);
            x.open(3, false);
            for (int cell = 0; cell < 35; cell++) {
                due("cell(" + cell + ", 3)", x.cell(cell, 3), NONE);
            }
        });
        test("The next cell of a cell with a goal: one after the other to the farthest door", x -> {
            oneLongWay(x);
            x.open(3, false);
            for (int cell = 1; cell < 35; cell++) {
                int row = cell / 7;
                int next = row % 2 == 0 ? cell % 7 == 0 ? cell - 7 : cell - 1 : cell % 7 == 6 ? cell - 7 : cell + 1;
                due("cell(" + cell + ", 3)", x.cell(cell, 3), next);
            }
        });
        test("Whose distance from the goal is 1 less: not from the nearest door", x -> {
            x.guard(2, 3);
            due("cell(2, 3)", x.cell(2, 3), 3);
            x.guard(2, -1);
            due("cell(2, 3)", x.cell(2, 3), 1);
        });
        test("With no rope between: a cell beside it that is as near is not next", x -> {
            x.rope(1, 1, true);
            due("cell(8, 3)", x.cell(8, 3), 7);
            x.rope(7, 0, true);
            due("cell(8, 2)", x.cell(8, 2), 4);
            due("cell(8, 3): right, and left around, are as long", x.cell(8, 3), 9);
        });
    }

    /** Two cells beside it have a distance that is 1 less; a rope to the first one leaves the second one. */
    private static void twoWays(String pair, int cell, int at, int[][] walls, int first, int second) {
        test("Of several the first one of: above, left, right, below: " + pair, x -> {
            x.open(3, false);
            x.door(0, at, 1);
            for (int[] wall : walls) {
                x.rope(wall[0], wall[1], true);
            }
            int far = x.cell(cell, 2);
            due("cell(" + cell + ", 3)", x.cell(cell, 3), beside(cell, first));
            due("distance of the second", x.distance(beside(cell, second), 0), far - 1);
            rope(x, cell, first, true);
            due("distance with the second alone", x.cell(cell, 2), far);
            due("cell(" + cell + ", 3) with a rope to the first", x.cell(cell, 3), beside(cell, second));
        });
    }

    private static void nextOfTwoWays() {
        twoWays("above ahead of left", 17, 9, new int[][] {}, 0, 1);
        twoWays("above ahead of right", 17, 11, new int[][] {}, 0, 2);
        twoWays("left ahead of below", 17, 23, new int[][] {}, 1, 3);
        twoWays("right ahead of below", 17, 25, new int[][] {}, 2, 3);
        twoWays("left ahead of right", 17, 10, new int[][] {{10, 1}}, 1, 2);
        twoWays("above ahead of below", 17, 16, new int[][] {{16, 0}}, 0, 3);
    }

    private static void minuteCount() {
        test("The count of minutes becomes 1 more: in an empty hall, too", x -> {
            due("pass(1)", x.pass(1), 0);
            due("count(1)", x.count(1), 1);
        });
        test("The count of minutes becomes 1 more: with no open door, too", x -> {
            x.open(0, false);
            x.open(3, false);
            x.enter(0, 6);
            due("pass(3)", x.pass(3), 0);
            due("count(1)", x.count(1), 3);
            due("cell(0, 0)", x.cell(0, 0), 6);
        });
    }

    private static void minuteDoors() {
        int[][] outs = {{1, 0, 0}, {1, 1, 1}, {1, 2, 1}, {9, 8, 8}, {9, 9, 9}, {9, 10, 9}, {9, 20, 9}, {5, 4, 4}};
        for (int[] out : outs) {
            test("As many as its rate, or as there are: rate " + out[0] + ", people " + out[1], x -> {
                x.setRoom(20);
                x.door(0, 0, out[0]);
                x.enter(0, out[1]);
                due("pass(1)", x.pass(1), out[2]);
                due("cell(0, 0)", x.cell(0, 0), out[1] - out[2]);
                due("doorOf(0, 3)", x.doorOf(0, 3), out[2]);
            });
        }
        test("Each open door, by its number: the lower ones take all", x -> {
            x.open(1, true);
            x.open(2, true);
            for (int door = 0; door < 4; door++) {
                x.door(door, 20, 2);
            }
            x.enter(20, 5);
            due("pass(1)", x.pass(1), 5);
            due("doorOf(0, 3)", x.doorOf(0, 3), 2);
            due("doorOf(1, 3)", x.doorOf(1, 3), 2);
            due("doorOf(2, 3)", x.doorOf(2, 3), 1);
            due("doorOf(3, 3)", x.doorOf(3, 3), 0);
        });
        test("Each open door: a closed one lets nobody out", x -> {
            x.enter(6, 6);
            x.enter(28, 6);
            due("pass(1)", x.pass(1), 0);
            due("doorOf(1, 3)", x.doorOf(1, 3), 0);
            due("doorOf(2, 3)", x.doorOf(2, 3), 0);
        });
        test("Each open door lets people of its cell out: those whom a guard sends away, too", x -> {
            x.guard(0, 3);
            x.enter(0, 6);
            due("pass(1)", x.pass(1), 1);
            due("cell(1, 0)", x.cell(1, 0), 5);
        });
        test("First the doors, then the turns: who goes out makes room", x -> {
            x.enter(0, 6);
            x.enter(1, 1);
            due("pass(1)", x.pass(1), 1);
            due("cell(0, 0)", x.cell(0, 0), 6);
            due("count(5)", x.count(5), 0);
        });
        test("First the doors, then the turns: who comes to the door goes out a minute later", x -> {
            x.enter(1, 1);
            due("pass(1)", x.pass(1), 0);
            due("pass(1)", x.pass(1), 1);
        });
    }

    private static void minuteOrder() {
        test("By the distance from their goals, the least first: the lower number behind", x -> {
            x.open(0, false);
            x.enter(34, 6);
            x.enter(33, 6);
            x.enter(32, 6);
            due("pass(1)", x.pass(1), 1);
            due("cell(33, 0)", x.cell(33, 0), 6);
            due("cell(32, 0)", x.cell(32, 0), 5);
        });
        test("By the distance from their goals: the farthest, too, get a turn", x -> {
            oneLongWay(x);
            x.open(3, false);
            x.enter(34, 2);
            x.enter(33, 6);
            due("pass(1)", x.pass(1), 0);
            due("cell(34, 0)", x.cell(34, 0), 0);
            due("cell(33, 0)", x.cell(33, 0), 2);
            due("cell(32, 0)", x.cell(32, 0), 6);
        });
        nobodyWaits(0);
        nobodyWaits(3);
        test("By the distance from their goals: not from the nearest door", x -> {
            x.guard(1, 3);
            x.enter(1, 6);
            x.enter(2, 5);
            x.enter(3, 1);
            due("pass(1)", x.pass(1), 0);
            due("cell(1, 0)", x.cell(1, 0), 6);
            due("cell(2, 0)", x.cell(2, 0), 6);
            due("cell(3, 0)", x.cell(3, 0), 0);
            due("count(5)", x.count(5), 5 + 6);
            due("count(6)", x.count(6), 2);
        });
        test("The cells get their turns: one each, also if there were more of them before", x -> {
            for (int cell = 1; cell <= 29; cell += 7) {
                x.enter(cell, 6);
            }
            x.enter(0, 6);
            due("cell(29, 3)", x.cell(29, 3), 22);
            x.open(1, true);
            due("pass(1)", x.pass(1), 1);
            due("cell(29, 0)", x.cell(29, 0), 5);
            due("count(5)", x.count(5), 5 * 5);
            due("count(6)", x.count(6), 5);
        });
        test("Of several the lowest number first", x -> {
            x.enter(0, 6);
            x.enter(1, 1);
            x.enter(7, 1);
            due("pass(1)", x.pass(1), 1);
            due("cell(1, 0)", x.cell(1, 0), 0);
            due("cell(7, 0)", x.cell(7, 0), 1);
        });
        test("Of several the lowest number first: of the cell, not of the door", x -> {
            x.door(0, 17, 1);
            x.door(3, 17, 1);
            x.guard(16, 3);
            x.enter(17, 6);
            x.enter(16, 6);
            x.enter(18, 6);
            due("pass(1)", x.pass(1), 2);
            due("cell(16, 0)", x.cell(16, 0), 4);
            due("cell(18, 0)", x.cell(18, 0), 6);
        });
    }

    /** Where each cell makes room ahead of the turn of the one behind it, nobody ever waits. */
    private static void nobodyWaits(int goal) {
        test("The least first: all the way to the door " + goal + " each cell makes room for the one behind it", x -> {
            x.setRoom(9);
            oneLongWay(x);
            x.open(3 - goal, false);
            x.door(goal, goal == 0 ? 0 : 34, 9);
            enterAll(x, 9);
            due("waiting()", x.waiting(), 0);
            due("untilOut()", x.untilOut(), 35);
            due("pass(1)", x.pass(1), 9);
            due("count(6)", x.count(6), 0);
            due("people of the last cell", x.cell(34 - x.doorOf(goal, 0), 0), 0);
        });
    }

    private static void minuteRoom() {
        int[][] rooms = {{0, 6}, {1, 6}, {2, 5}, {5, 2}, {6, 1}};
        for (int[] room : rooms) {
            test("As many as there is room: " + room[0] + " are in the next cell", x -> {
                x.enter(0, room[0]);
                x.enter(1, 6);
                x.pass(1);
                due("cell(1, 0)", x.cell(1, 0), 6 - room[1]);
                due("count(5), those who wait", x.count(5), 6 - room[1]);
                due("count(6), a jam", x.count(6), room[1] < 6 ? 1 : 0);
            });
        }
        test("As many as there is room: none", x -> {
            x.enter(0, 6);
            x.enter(1, 1);
            x.enter(7, 6);
            x.pass(1);
            due("cell(7, 0)", x.cell(7, 0), 6);
            due("count(5)", x.count(5), 6);
            due("count(6)", x.count(6), 1);
        });
        test("A cell has at most ROOM people: those who come step by step, too", x -> {
            x.setRoom(2);
            enterAll(x, 2);
            for (int i = 0; i < 8; i++) {
                x.pass(1);
                for (int cell = 0; cell < 35; cell++) {
                    due("more than ROOM in " + cell, Math.max(2, x.cell(cell, 0)), 2);
                }
            }
        });
        test("Jammed in this minute: each cell and minute one; this is counted for each of them", x -> {
            x.enter(0, 6);
            x.enter(1, 6);
            x.pass(1);
            due("count(5)", x.count(5), 5);
            due("count(6)", x.count(6), 1);
            x.pass(1);
            due("count(5)", x.count(5), 5 + 4);
            due("count(6)", x.count(6), 2);
            x.pass(4);
            due("count(5)", x.count(5), 5 + 4 + 3 + 2 + 1);
            due("count(6)", x.count(6), 5);
        });
        test("(People at the cell of their goal do not wait in this sense.)", x -> {
            x.enter(0, 6);
            x.enter(34, 6);
            x.pass(3);
            due("count(5)", x.count(5), 0);
            due("count(6)", x.count(6), 0);
        });
    }

    private static void minuteNobodyTwice() {
        test("Those who came to the cell in this minute stay", x -> {
            x.guard(1, 3);
            x.enter(2, 4);
            x.pass(1);
            due("cell(1, 0)", x.cell(1, 0), 4);
            due("cell(2, 0)", x.cell(2, 0), 0);
            x.pass(1);
            due("cell(1, 0)", x.cell(1, 0), 0);
            due("cell(2, 0)", x.cell(2, 0), 4);
        });
        test("Those who came do not wait, and do not jam the cell", x -> {
            x.guard(1, 3);
            x.enter(1, 2);
            x.enter(2, 4);
            x.pass(1);
            due("cell(1, 0), 4 came and 2 went", x.cell(1, 0), 4);
            due("cell(2, 0), 4 went and 2 came", x.cell(2, 0), 2);
            due("count(5)", x.count(5), 0);
            due("count(6)", x.count(6), 0);
        });
        test("If not all who could go have gone: those who came are not counted", x -> {
            x.guard(1, 3);
            x.enter(1, 4);
            x.enter(2, 6);
            x.pass(1);
            due("cell(1, 0), 2 came and 2 went", x.cell(1, 0), 4);
            due("cell(2, 0), 2 went and 2 came", x.cell(2, 0), 6);
            due("count(5)", x.count(5), 4 + 2);
            due("count(6)", x.count(6), 2);
        });
        test("Nobody goes twice in a minute: who came last minute goes", x -> {
            x.enter(17, 6);
            x.pass(5);
            due("cell(0, 0)", x.cell(0, 0), 6);
            due("cell(17, 2)", x.cell(17, 2), 5);
        });
    }

    private static void minuteAfterMinute() {
        for (int one = 0; one < 35; one++) {
            int cell = one;
            test("Those who came to the cell in this minute stay, and go in the next one: the cell " + cell, x -> {
                int behind = cell % 7 == 0 ? cell + 1 : cell - 1;
                x.door(0, cell, 1);
                x.door(3, cell == 34 ? 0 : 34, 1);
                x.guard(cell, 3);
                x.guard(behind, 0);
                x.enter(behind, 3);
                due("pass(1)", x.pass(1), 0);
                due("people when they have come", x.cell(cell, 0), 3);
                due("pass(1)", x.pass(1), 1);
                due("people when they have gone", x.cell(cell, 0), 0);
                due("people of the next cell", x.cell(x.cell(cell, 3), 0), 2);
            });
        }
    }

    private static void minuteWithoutTurn() {
        test("Cells without a goal get none", x -> {
            x.rope(5, 0, true);
            x.rope(6, 1, true);
            x.enter(6, 6);
            x.pass(9);
            due("cell(6, 0)", x.cell(6, 0), 6);
            due("count(5)", x.count(5), 0);
            due("count(6)", x.count(6), 0);
        });
        test("Cells that are at their goal get none", x -> {
            x.enter(0, 6);
            x.pass(1);
            due("cell(0, 0)", x.cell(0, 0), 5);
            due("cell(1, 0)", x.cell(1, 0), 0);
            due("cell(7, 0)", x.cell(7, 0), 0);
        });
        test("Cells without people are not jammed", x -> {
            x.setRoom(1);
            x.enter(0, 1);
            x.door(0, 0, 1);
            x.pass(5);
            due("count(5)", x.count(5), 0);
            due("count(6)", x.count(6), 0);
        });
    }

    private static void reads(String text, int cell, int many) {
        test("crowd = column row \":\" many: " + text, x -> {
            x.setRoom(20);
            type(x, text);
            due("fault()", x.fault(), NONE);
            due("read()", x.read(), many);
            due("cell(" + cell + ", 0)", x.cell(cell, 0), many);
        });
    }

    private static void faults(String what, String text, int fault) {
        test(what + ": \"" + text + "\"", x -> {
            type(x, text);
            due("fault()", x.fault(), fault);
            due("count(12)", x.count(12), text.length());
            if (fault != NONE) {
                due("read()", x.read(), BAD_TEXT);
            }
        });
    }

    private static void texts() {
        for (int cell = 0; cell < 35; cell++) {
            reads((char) ('a' + cell % 7) + "" + (cell / 7 + 1) + ":1", cell, 1);
        }
        for (int many = 1; many <= 20; many++) {
            reads("g5:" + many, 34, many);
        }
        faults("a number from 1 to 20", "a1:0", 3);
        for (int many = 21; many <= 99; many++) {
            faults("a number from 1 to 20", "a1:" + many, 4);
        }
        faults("a number from 1 to 20", "a1:100", 5);
        faults("a number from 1 to 20", "a1:200", 5);
        for (int many = 0; many <= 20; many++) {
            faults("without leading zeros", "a1:0" + many, 3);
        }
        faults("the length of the text, also if it is empty", "", 0);
        String whole = "a1:20,g5:1,c3:10";
        for (int length = 1; length <= whole.length(); length++) {
            int inCrowd = length < 6 ? length : length < 11 ? length - 6 : length - 11;
            faults("ends too early", whole.substring(0, length), inCrowd >= 4 ? NONE : length);
        }
        faults("ends too early, also behind a comma", "a1:2,", 5);
        faults("the first character that cannot stand, not a later one", "a1:2;a9:0", 4);
        faults("ahead of ending too early", "a7:", 1);
        String most = "a1:20,b1:20,c1:20,d1:20,e1:20,f1:20,g1:20,a2:20,b2:20,c2:10";
        faults("at most 60 characters, 59 of them", most, NONE);
        faults("at most 60 characters, the 60th a fault", most + "0", 59);
        faults("at most 60 characters, the 60th too early", most + ",", 60);
        faults("at most 60 characters, all 60 good", "a1:10" + ",b1:1".repeat(11), NONE);
        faults("at most 60 characters, the 60th too early for its crowd", "a1:10" + ",b1:10".repeat(9) + ",", 60);
    }

    /** Every character that can be put, behind every beginning of a text that has no fault so far. */
    private static void textsCharacterByCharacter() {
        String[][] places = {{"", "abcdefg"}, {"a", "12345"}, {"a1", ":"}, {"a1:", "123456789"},
            {"a1:1", "0123456789,"}, {"a1:2", "0,"}, {"a1:3", ","}, {"a1:9", ","}, {"a1:10", ","}, {"a1:20", ","},
            {"a1:1,", "abcdefg"}, {"a1:1,g", "12345"}};
        for (String[] place : places) {
            test("The first character that cannot stand at its place: behind \"" + place[0] + "\"", x -> {
                for (char next = 33; next <= 126; next++) {
                    type(x, place[0] + next);
                    boolean canStand = place[1].indexOf(next) >= 0;
                    boolean isEnd = canStand && next != ',' && place[0].indexOf(':') >= 0 && !place[0].contains(",");
                    int fault = !canStand ? place[0].length() : isEnd ? NONE : place[0].length() + 1;
                    due("fault() with " + next, x.fault(), fault);
                    x.wipe();
                }
            });
        }
    }
}
