import java.util.function.Consumer;
import java.util.function.ToIntFunction;

/** Calls that are refused: the first error that applies is returned, and nothing changes. */
public final class RefusalTest extends Checks {
    public static void main(String[] args) {
        hall();
        fullOfRopes();
        lastMinute();
        fullPad();
        emptyObject();
        noneOnlyWithoutError();
        finish();
    }

    /** A hall in which something of everything is there; the slot 1 is empty, and the pad ends too early. */
    private static void fill(RopedHalls x) {
        x.rope(16, 0, true);
        x.door(1, 20, 3);
        x.open(1, true);
        x.guard(8, 3);
        x.enter(0, 6);
        x.enter(1, 5);
        x.save(0);
        x.enter(8, 4);
        x.pass(2);
        x.enter(34, 6);
        type(x, "c3:1,d");
    }

    private static void fillRopes(RopedHalls x) {
        oneLongWay(x);
        x.enter(17, 2);
    }

    private static void fillMinutes(RopedHalls x) {
        for (int i = 0; i < 101; i++) {
            x.pass(99);
        }
        x.enter(17, 2);
    }

    private static void fillPad(RopedHalls x) {
        x.enter(17, 2);
        type(x, "a1:10" + ",b1:1".repeat(10) + ",b1:");
    }

    /** Whatever can be seen later on, too: behind so many undos, a restored slot, or the pad read to its end. */
    private static int[] seen(Consumer<RopedHalls> fill, ToIntFunction<RopedHalls> call, int view) {
        RopedHalls x = new RopedHalls();
        fill.accept(x);
        call.applyAsInt(x);
        for (int i = 0; i < Math.min(view, 6); i++) {
            x.undo();
        }
        if (view == 7 || view == 8) {
            x.restore(view - 7);
        }
        if (view == 9) {
            x.put('1');
            x.put(number(":5"));
            x.read();
        }
        return look(x);
    }

    private static void refused(String call, int error, Consumer<RopedHalls> fill, ToIntFunction<RopedHalls> run) {
        test(call, x -> {
            fill.accept(x);
            due("the answer", run.applyAsInt(x), error);
            due("the answer of one more", run.applyAsInt(x), error);
            for (int view = 0; view < 10; view++) {
                same("view " + view, seen(fill, run, view), seen(fill, none -> 0, view));
            }
        });
    }

    private static void hall() {
        Consumer<RopedHalls> fill = RefusalTest::fill;
        refused("setRoom: BAD_VALUE, too small", BAD_VALUE, fill, x -> x.setRoom(0));
        refused("setRoom: BAD_VALUE, too large", BAD_VALUE, fill, x -> x.setRoom(21));
        refused("setRoom: NOT_POSSIBLE", NOT_POSSIBLE, fill, x -> x.setRoom(5));
        refused("rope: NO_SUCH ahead of BAD_VALUE", NO_SUCH, fill, x -> x.rope(35, 2, true));
        refused("rope: NO_SUCH ahead of NOT_POSSIBLE", NO_SUCH, fill, x -> x.rope(-1, 0, false));
        refused("rope: BAD_VALUE", BAD_VALUE, fill, x -> x.rope(0, 2, true));
        refused("rope: BAD_VALUE ahead of NOT_POSSIBLE, no cell", BAD_VALUE, fill, x -> x.rope(34, -1, true));
        refused("rope: BAD_VALUE ahead of NOT_POSSIBLE, so already", BAD_VALUE, fill, x -> x.rope(0, 2, false));
        refused("rope: NOT_POSSIBLE, no cell", NOT_POSSIBLE, fill, x -> x.rope(6, 0, true));
        refused("rope: NOT_POSSIBLE, it hangs", NOT_POSSIBLE, fill, x -> x.rope(16, 0, true));
        refused("rope: NOT_POSSIBLE, it does not hang", NOT_POSSIBLE, fill, x -> x.rope(16, 1, false));
        refused("door: NO_SUCH door", NO_SUCH, fill, x -> x.door(4, 0, 1));
        refused("door: NO_SUCH cell", NO_SUCH, fill, x -> x.door(0, 35, 1));
        refused("door: NO_SUCH door ahead of BAD_VALUE", NO_SUCH, fill, x -> x.door(-1, 0, 0));
        refused("door: NO_SUCH cell ahead of BAD_VALUE", NO_SUCH, fill, x -> x.door(0, -1, 10));
        refused("door: BAD_VALUE, too small", BAD_VALUE, fill, x -> x.door(0, 3, 0));
        refused("door: BAD_VALUE, too large", BAD_VALUE, fill, x -> x.door(0, 3, 10));
        refused("open: NO_SUCH", NO_SUCH, fill, x -> x.open(4, true));
        refused("open: NO_SUCH ahead of NOT_POSSIBLE", NO_SUCH, fill, x -> x.open(-1, false));
        refused("open: NOT_POSSIBLE, it is open", NOT_POSSIBLE, fill, x -> x.open(1, true));
        refused("open: NOT_POSSIBLE, it is closed", NOT_POSSIBLE, fill, x -> x.open(2, false));
        refused("guard: NO_SUCH", NO_SUCH, fill, x -> x.guard(35, 0));
        refused("guard: NO_SUCH ahead of BAD_VALUE", NO_SUCH, fill, x -> x.guard(-1, 4));
        refused("guard: BAD_VALUE, too small", BAD_VALUE, fill, x -> x.guard(8, -2));
        refused("guard: BAD_VALUE, too large", BAD_VALUE, fill, x -> x.guard(8, 4));
        refused("enter: NO_SUCH", NO_SUCH, fill, x -> x.enter(35, 1));
        refused("enter: NO_SUCH ahead of BAD_VALUE", NO_SUCH, fill, x -> x.enter(-1, 0));
        refused("enter: NO_SUCH ahead of TOO_MANY", NO_SUCH, fill, x -> x.enter(35, 20));
        refused("enter: BAD_VALUE, too small", BAD_VALUE, fill, x -> x.enter(2, 0));
        refused("enter: BAD_VALUE, below 0", BAD_VALUE, fill, x -> x.enter(34, -1));
        refused("enter: BAD_VALUE ahead of TOO_MANY", BAD_VALUE, fill, x -> x.enter(34, 21));
        refused("enter: BAD_VALUE into a full cell", BAD_VALUE, fill, x -> x.enter(34, 0));
        refused("enter: TOO_MANY", TOO_MANY, fill, x -> x.enter(34, 1));
        refused("read: BAD_TEXT", BAD_TEXT, fill, x -> x.read());
        refused("pass: BAD_VALUE, too small", BAD_VALUE, fill, x -> x.pass(0));
        refused("pass: BAD_VALUE, too large", BAD_VALUE, fill, x -> x.pass(100));
        refused("cell: NO_SUCH ahead of BAD_VALUE", NO_SUCH, fill, x -> x.cell(35, 6));
        refused("cell: BAD_VALUE", BAD_VALUE, fill, x -> x.cell(0, 6));
        refused("doorOf: NO_SUCH ahead of BAD_VALUE", NO_SUCH, fill, x -> x.doorOf(4, 6));
        refused("doorOf: BAD_VALUE", BAD_VALUE, fill, x -> x.doorOf(0, 6));
        refused("count: BAD_VALUE", BAD_VALUE, fill, x -> x.count(14));
        refused("distance: NO_SUCH cell", NO_SUCH, fill, x -> x.distance(35, 0));
        refused("distance: NO_SUCH door", NO_SUCH, fill, x -> x.distance(0, 4));
        refused("ifRope: NO_SUCH ahead of BAD_VALUE side", NO_SUCH, fill, x -> x.ifRope(35, 2, 0));
        refused("ifRope: NO_SUCH ahead of BAD_VALUE what", NO_SUCH, fill, x -> x.ifRope(-1, 0, 3));
        refused("ifRope: BAD_VALUE side ahead of NOT_POSSIBLE", BAD_VALUE, fill, x -> x.ifRope(34, 2, 0));
        refused("ifRope: BAD_VALUE what ahead of NOT_POSSIBLE", BAD_VALUE, fill, x -> x.ifRope(34, 0, 3));
        refused("ifRope: NOT_POSSIBLE to the right", NOT_POSSIBLE, fill, x -> x.ifRope(6, 0, 0));
        refused("ifRope: NOT_POSSIBLE below", NOT_POSSIBLE, fill, x -> x.ifRope(28, 1, 2));
        refused("bestRope: BAD_VALUE", BAD_VALUE, fill, x -> x.bestRope(3));
        refused("put: BAD_VALUE, no character", BAD_VALUE, fill, x -> x.put(0));
        refused("put: BAD_VALUE, the first code", BAD_VALUE, fill, x -> x.put(number(" a1:1")));
        refused("put: BAD_VALUE, the last code", BAD_VALUE, fill, x -> x.put(number("a1:1 ")));
        refused("put: BAD_VALUE, a bit above", BAD_VALUE, fill, x -> x.put(1L << 40 | number("a1:")));
        refused("save: BAD_VALUE, too small", BAD_VALUE, fill, x -> x.save(-1));
        refused("save: BAD_VALUE, too large", BAD_VALUE, fill, x -> x.save(2));
        refused("restore: BAD_VALUE ahead of NOT_POSSIBLE", BAD_VALUE, fill, x -> x.restore(2));
        refused("restore: BAD_VALUE, too small", BAD_VALUE, fill, x -> x.restore(-1));
        refused("restore: NOT_POSSIBLE", NOT_POSSIBLE, fill, x -> x.restore(1));
    }

    private static void fullOfRopes() {
        Consumer<RopedHalls> fill = RefusalTest::fillRopes;
        refused("rope: NO_SUCH ahead of TOO_MANY", NO_SUCH, fill, x -> x.rope(35, 0, true));
        refused("rope: BAD_VALUE ahead of TOO_MANY", BAD_VALUE, fill, x -> x.rope(0, 2, true));
        refused("rope: NOT_POSSIBLE ahead of TOO_MANY, no cell", NOT_POSSIBLE, fill, x -> x.rope(34, 0, true));
        refused("rope: NOT_POSSIBLE ahead of TOO_MANY, it hangs", NOT_POSSIBLE, fill, x -> x.rope(0, 1, true));
        refused("rope: NOT_POSSIBLE, it does not hang", NOT_POSSIBLE, fill, x -> x.rope(0, 0, false));
        refused("rope: TOO_MANY", TOO_MANY, fill, x -> x.rope(0, 0, true));
        refused("ifRope: NOT_POSSIBLE with 24 ropes", NOT_POSSIBLE, fill, x -> x.ifRope(34, 0, 0));
    }

    private static void lastMinute() {
        Consumer<RopedHalls> fill = RefusalTest::fillMinutes;
        refused("pass: BAD_VALUE ahead of TOO_MANY, too large", BAD_VALUE, fill, x -> x.pass(100));
        refused("pass: BAD_VALUE ahead of TOO_MANY, too small", BAD_VALUE, fill, x -> x.pass(0));
        refused("pass: TOO_MANY, by one", TOO_MANY, fill, x -> x.pass(1));
        refused("pass: TOO_MANY, by the most", TOO_MANY, fill, x -> x.pass(99));
    }

    private static void fullPad() {
        Consumer<RopedHalls> fill = RefusalTest::fillPad;
        refused("put: BAD_VALUE ahead of TOO_MANY, a code", BAD_VALUE, fill, x -> x.put(number("a b")));
        refused("put: BAD_VALUE ahead of TOO_MANY, a bit above", BAD_VALUE, fill, x -> x.put(0x6100616161L));
        refused("put: BAD_VALUE ahead of TOO_MANY, no character", BAD_VALUE, fill, x -> x.put(0));
        refused("put: TOO_MANY, by one", TOO_MANY, fill, x -> x.put(number("11")));
        refused("put: TOO_MANY, by the most", TOO_MANY, fill, x -> x.put(number("1,a1:1,a")));
        refused("read: BAD_TEXT, 59 characters", BAD_TEXT, fill, x -> x.read());
    }

    private static void emptyObject() {
        Consumer<RopedHalls> fill = x -> { };
        refused("undo: NOT_POSSIBLE", NOT_POSSIBLE, fill, x -> x.undo());
        refused("restore: NOT_POSSIBLE, slot 0", NOT_POSSIBLE, fill, x -> x.restore(0));
        refused("restore: NOT_POSSIBLE, slot 1", NOT_POSSIBLE, fill, x -> x.restore(1));
        refused("read: BAD_TEXT, empty", BAD_TEXT, fill, x -> x.read());
        refused("setRoom: BAD_VALUE in the empty hall", BAD_VALUE, fill, x -> x.setRoom(0));
        refused("enter: TOO_MANY into an empty cell", TOO_MANY, fill, x -> x.enter(0, 7));
    }

    /** Two and two people who never get past each other: untilOut() is NONE, with whatever rope. */
    private static void fillNone(RopedHalls x) {
        x.setRoom(1);
        block(x, 1);
        block(x, 5);
    }

    private static void noneOnlyWithoutError() {
        Consumer<RopedHalls> fill = RefusalTest::fillNone;
        test("NONE is not an error; it is returned only if no error applies: where none applies", x -> {
            x.open(0, false);
            x.open(3, false);
            due("cell(0, 1)", x.cell(0, 1), NONE);
            due("guard(0, 1)", x.guard(0, 1), NONE);
            x.rope(0, 0, true);
            x.rope(0, 1, true);
            due("distance(0, 3)", x.distance(0, 3), NONE);
            due("distance(35, 3)", x.distance(35, 3), NO_SUCH);
            due("guard(0, 4)", x.guard(0, 4), BAD_VALUE);
            due("cell(35, 1)", x.cell(35, 1), NO_SUCH);
            due("cell(0, 6)", x.cell(0, 6), BAD_VALUE);
        });
        refused("NONE only if no error applies: ifRope, NO_SUCH", NO_SUCH, fill, x -> x.ifRope(35, 0, 0));
        refused("NONE only if no error applies: ifRope, BAD_VALUE", BAD_VALUE, fill, x -> x.ifRope(0, 0, 3));
        refused("NONE only if no error applies: ifRope, NOT_POSSIBLE", NOT_POSSIBLE, fill, x -> x.ifRope(6, 0, 0));
        refused("NONE only if no error applies: bestRope, BAD_VALUE", BAD_VALUE, fill, x -> x.bestRope(-1));
        refused("NONE is no error: bestRope changes nothing, either", NONE, fill, x -> x.bestRope(0));
        refused("NONE is no error: untilOut changes nothing, either", NONE, fill, x -> x.untilOut());
    }
}
