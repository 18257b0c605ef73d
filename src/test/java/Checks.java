import java.util.function.Consumer;

/** What the tests share: answers that are due, tests that are told by a sentence, texts for the pad. */
abstract class Checks {
    static final int NO_SUCH = -1, BAD_VALUE = -2, BAD_TEXT = -3, TOO_MANY = -4, NOT_POSSIBLE = -5, NONE = -6;
    static final int[] NO_CELLS = {-1, -6, 35, 70, Integer.MIN_VALUE, Integer.MAX_VALUE};
    static final int[] NO_DOORS = {-1, -6, 4, 35, Integer.MIN_VALUE, Integer.MAX_VALUE};
    static String part = "";
    private static int wrong = 0;
    private static int tests = 0;

    static void due(String call, int got, int want) {
        if (got != want) {
            wrong++;
            System.out.println(part + ": " + call + " answered " + got + ", due is " + want);
        }
    }

    /** Each test has an object of its own, so that none leans on what another one left behind. */
    static void test(String sentence, Consumer<RopedHalls> run) {
        part = sentence;
        tests++;
        run.accept(new RopedHalls());
    }

    static void finish() {
        String whole = tests == 0 ? "" : tests + " tests: ";
        System.out.println(whole + (wrong == 0 ? "all answers are as due" : wrong + " answers are not as due"));
        if (wrong != 0) {
            System.exit(1);
        }
    }

    /** Puts a text of any length, in pieces. */
    static void type(RopedHalls x, String text) {
        for (int start = 0; start < text.length(); start += 8) {
            x.put(number(text.substring(start, Math.min(text.length(), start + 8))));
        }
    }

    static long number(String piece) {
        long characters = 0;
        for (char one : piece.toCharArray()) {
            characters = characters << 8 | one;
        }
        return characters;
    }

    /** Two cells whose guards send the people of each to the other one: with ROOM 1 nobody ever goes. */
    static void block(RopedHalls x, int left) {
        x.guard(left, 3);
        x.guard(left + 1, 0);
        x.enter(left, 1);
        x.enter(left + 1, 1);
    }

    /** 24 ropes between the rows, so that there is one way alone, through all cells, from 0 to 34. */
    static void oneLongWay(RopedHalls x) {
        for (int i = 0; i < 24; i++) {
            int row = i / 6;
            x.rope(7 * row + (row % 2 == 0 ? 0 : 1) + i % 6, 1, true);
        }
    }

    /** Each cell gets as many. */
    static void enterAll(RopedHalls x, int many) {
        for (int cell = 0; cell < 35; cell++) {
            x.enter(cell, many);
        }
    }

    /** All numbers that can be looked at without changing anything, in one row. */
    static int[] look(RopedHalls x) {
        int[] all = new int[14 + 35 * 6 + 4 * 6 + 3];
        int i = 0;
        for (int what = 0; what < 14; what++) {
            all[i++] = x.count(what);
        }
        for (int cell = 0; cell < 35; cell++) {
            for (int what = 0; what < 6; what++) {
                all[i++] = x.cell(cell, what);
            }
        }
        for (int door = 0; door < 4; door++) {
            for (int what = 0; what < 6; what++) {
                all[i++] = x.doorOf(door, what);
            }
        }
        all[i++] = x.untilOut();
        all[i++] = x.waiting();
        all[i++] = x.fault();
        return all;
    }

    static void same(String when, int[] got, int[] want) {
        for (int i = 0; i < want.length; i++) {
            due("number " + i + " of all that can be looked at, " + when, got[i], want[i]);
        }
    }
}
