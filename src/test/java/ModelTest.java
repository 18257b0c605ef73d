import java.util.ArrayList;
import java.util.List;
import java.util.Random;

/** Long runs of calls, the same in each test run, on the program and on the model: every answer has to be the same. */
public final class ModelTest {
    private static final int RUNS = 400, CALLS = 440;
    private static final int[] STRANGE = {-1, -2, -6, 35, 36, 70, 100, Integer.MIN_VALUE, Integer.MAX_VALUE};
    private static int wrong = 0;

    private final Random random;
    private final RopedHalls program = new RopedHalls();
    private final Model model = new Model();
    private final List<String> calls = new ArrayList<>();
    private final int ropesIn10;
    private final int peopleIn10;
    private final int guardsIn10;
    private boolean isWrong = false;

    private ModelTest(int run) {
        random = new Random(run);
        ropesIn10 = random.nextInt(10);
        peopleIn10 = random.nextInt(10);
        guardsIn10 = random.nextInt(6);
    }

    public static void main(String[] args) {
        for (int run = 0; run < RUNS && wrong < 5; run++) {
            new ModelTest(run).go(run);
        }
        System.out.println(wrong == 0 ? "program and model answer the same" : wrong + " runs go wrong");
        if (wrong != 0) {
            System.exit(1);
        }
    }

    private void go(int run) {
        while (calls.size() < CALLS && !isWrong) {
            switch (random.nextInt(10)) {
                case 0: case 1: case 2: case 3: change(); break;
                case 4: text(); break;
                case 5: history(); break;
                case 6: whatIf(); break;
                default: look(); break;
            }
        }
        if (isWrong) {
            wrong++;
            System.out.println("run " + run + ", its last calls:");
            for (String call : calls.subList(Math.max(0, calls.size() - 12), calls.size())) {
                System.out.println("  " + call);
            }
        }
    }

    private void same(String call, int got, int want) {
        calls.add(call + " answered " + got + (got == want ? "" : ", the model says " + want));
        isWrong |= got != want;
    }

    /** A number from 0 to bound - 1; now and then one that is not in any range. */
    private int number(int bound) {
        return random.nextInt(60) == 0 ? STRANGE[random.nextInt(STRANGE.length)]
                : random.nextInt(60) == 0 ? bound : random.nextInt(bound);
    }

    private boolean chance(int in10) {
        return random.nextInt(10) < in10;
    }

    private void change() {
        if (chance(ropesIn10)) {
            hang(number(35), number(2), chance(8));
        }
        if (chance(peopleIn10)) {
            enter(number(35), chance(8) ? 1 + random.nextInt(6) : number(21));
        }
        if (chance(guardsIn10)) {
            int cell = number(35);
            int door = chance(3) ? -1 : number(4);
            same("guard(" + cell + ", " + door + ")", program.guard(cell, door), model.guard(cell, door));
        }
        if (chance(2)) {
            int door = number(4);
            int cell = number(35);
            int rate = chance(7) ? 1 + random.nextInt(3) : number(10);
            same("door(" + door + ", " + cell + ", " + rate + ")", program.door(door, cell, rate),
                    model.door(door, cell, rate));
        }
        if (chance(2)) {
            int door = number(4);
            boolean isOpen = chance(6);
            same("open(" + door + ", " + isOpen + ")", program.open(door, isOpen), model.open(door, isOpen));
        }
        if (chance(2)) {
            int people = number(21);
            same("setRoom(" + people + ")", program.setRoom(people), model.setRoom(people));
        }
        if (chance(3)) {
            int minutes = chance(8) ? 1 + random.nextInt(4) : number(100);
            same("pass(" + minutes + ")", program.pass(minutes), model.pass(minutes));
        }
    }

    private void hang(int cell, int side, boolean hangs) {
        same("rope(" + cell + ", " + side + ", " + hangs + ")", program.rope(cell, side, hangs),
                model.rope(cell, side, hangs));
    }

    private void enter(int cell, int many) {
        same("enter(" + cell + ", " + many + ")", program.enter(cell, many), model.enter(cell, many));
    }

    private void put(long characters) {
        same("put(" + characters + ")", program.put(characters), model.put(characters));
    }

    private void text() {
        switch (random.nextInt(8)) {
            case 0: same("wipe()", program.wipe(), model.wipe()); break;
            case 1: put(random.nextLong() >>> random.nextInt(64)); break;
            case 2: case 3: case 4: putCrowds(); break;
            default: break;
        }
        same("fault()", program.fault(), model.fault());
        if (chance(4)) {
            same("read()", program.read(), model.read());
        }
    }

    /** Mostly a good text, in pieces of 1 to 8 characters. */
    private void putCrowds() {
        StringBuilder text = new StringBuilder();
        for (int left = 1 + random.nextInt(random.nextInt(9) + 1); left > 0; left--) {
            text.append((char) ('a' + random.nextInt(7))).append(1 + random.nextInt(5)).append(':');
            text.append(1 + random.nextInt(20)).append(left > 1 || random.nextInt(20) == 0 ? "," : "");
        }
        if (chance(2)) {
            text.setCharAt(random.nextInt(text.length()), "abgh01256789:,;A{"
                    .charAt(random.nextInt(17)));
        }
        for (int start = 0; start < text.length();) {
            int end = Math.min(text.length(), start + 1 + random.nextInt(8));
            long characters = 0;
            for (char one : text.substring(start, end).toCharArray()) {
                characters = characters << 8 | one;
            }
            put(characters);
            start = end;
        }
    }

    private void history() {
        int slot = random.nextInt(3) == 0 ? number(3) : random.nextInt(2);
        switch (random.nextInt(6)) {
            case 0: case 1: case 2:
                for (int left = random.nextInt(random.nextInt(8) + 1); left >= 0; left--) {
                    same("undo()", program.undo(), model.undo());
                }
                break;
            case 3: same("save(" + slot + ")", program.save(slot), model.save(slot)); break;
            default: same("restore(" + slot + ")", program.restore(slot), model.restore(slot)); break;
        }
        same("count(13)", program.count(13), model.count(13));
    }

    private void whatIf() {
        if (chance(3)) {
            same("untilOut()", program.untilOut(), model.untilOut());
            same("waiting()", program.waiting(), model.waiting());
        } else if (chance(9)) {
            int cell = number(35);
            int side = number(2);
            int what = number(3);
            same("ifRope(" + cell + ", " + side + ", " + what + ")", program.ifRope(cell, side, what),
                    model.ifRope(cell, side, what));
        } else {
            int what = number(3);
            same("bestRope(" + what + ")", program.bestRope(what), model.bestRope(what));
        }
    }

    private void look() {
        int what = number(14);
        same("count(" + what + ")", program.count(what), model.count(what));
        int cell = number(35);
        int ofCell = number(6);
        same("cell(" + cell + ", " + ofCell + ")", program.cell(cell, ofCell), model.cell(cell, ofCell));
        int door = number(4);
        int ofDoor = number(6);
        same("doorOf(" + door + ", " + ofDoor + ")", program.doorOf(door, ofDoor), model.doorOf(door, ofDoor));
        same("distance(" + cell + ", " + door + ")", program.distance(cell, door), model.distance(cell, door));
    }
}
