import java.util.Random;

/** Runs of as many calls as an object is used for, compared with the document told again in NaiveFloor; all promises. */
final class RandomRunsTest {
    private static final int RUNS = 4000;
    private static final int MOST_CALLS = 512;
    /** What everything() and wouldBe() call at the most. */
    private static final int CALLS_OF_EVERYTHING = 180;
    private static final int CALLS_OF_WOULD_BE = 48;

    private static Random dice;
    private static int calls;

    public static void main(String[] args) {
        for (int run = 0; run < RUNS; run++) {
            dice = new Random(run);
            calls = 0;
            BeltFloor f = new BeltFloor();
            NaiveFloor n = new NaiveFloor();
            if (dice.nextInt(3) > 0) {
                readText(run, f, n);
            }
            while (calls + CALLS_OF_WOULD_BE + CALLS_OF_EVERYTHING <= MOST_CALLS) {
                call("run " + run + " call " + calls, f, n);
            }
            everything("run " + run, f, n);
            Check.same("more calls than an object is used for", calls <= MOST_CALLS, true);
        }
        Check.end();
    }

    private static void compare(String what, Check.Call one, Check.Call other) {
        calls++;
        Check.same(what, Check.outcome(one), Check.outcome(other));
    }

    private static int oneOf(int... numbers) {
        return numbers[dice.nextInt(numbers.length)];
    }

    /** Mostly a number from 0 to most, now and then one beside these. */
    private static int upTo(int most) {
        return dice.nextInt(25) == 0 ? oneOf(-1, most + 1, Integer.MIN_VALUE, Integer.MAX_VALUE)
                : dice.nextInt(most + 1);
    }

    /** The robots' surroundings come up more often, so that things meet. */
    private static int cell(NaiveFloor n) {
        if (dice.nextInt(3) > 0) {
            return upTo(35);
        }
        return n.cellOf(dice.nextInt(2)) + oneOf(-6, -1, 0, 1, 6);
    }

    private static void type(String what, String text, BeltFloor f, NaiveFloor n) {
        for (int i = 0; i < text.length(); i++) {
            int c = text.charAt(i);
            compare(what + " append " + c, () -> f.append(c), () -> n.append(c));
        }
    }

    private static String randomFloor() {
        StringBuilder s = new StringBuilder("F");
        String signs = new String[] {"............#o", ".nesw", "nesw.....o", "#o.", ".", "......nesw#o"}[dice.nextInt(6)];
        for (int i = 0; i < 36; i++) {
            s.append(signs.charAt(dice.nextInt(signs.length())));
        }
        int items = dice.nextInt(14);
        for (int i = 0; i < items; i++) {
            s.append(randomItem());
        }
        return s.toString();
    }

    private static String randomItem() {
        String cell = String.format("%02d", dice.nextInt(36));
        int robot = dice.nextInt(2);
        switch (dice.nextInt(5)) {
            case 0:
            case 1:
                return "c" + cell;
            case 2:
                return "p" + cell;
            case 3:
                return "r" + robot + cell + dice.nextInt(4);
            default:
                StringBuilder s = new StringBuilder("i").append(robot);
                int length = 1 + dice.nextInt(dice.nextInt(4) == 0 ? 10 : 4);
                for (int i = 0; i < length; i++) {
                    s.append(dice.nextInt(6));
                }
                return s.append('.').toString();
        }
    }

    private static void readText(int run, BeltFloor f, NaiveFloor n) {
        String what = "run " + run + " text";
        String text = randomFloor();
        if (dice.nextInt(3) == 0) {
            int at = dice.nextInt(text.length() + 1);
            String wrong = String.valueOf("Fcpri0123456789.#onesw x".charAt(dice.nextInt(24)));
            text = text.substring(0, at) + wrong + text.substring(Math.min(text.length(), at + dice.nextInt(2)));
        }
        if (dice.nextInt(5) == 0) {
            text = text.substring(0, dice.nextInt(text.length() + 1));
        }
        type(what, text, f, n);
        compare(what + " errorPosition", () -> f.errorPosition(), () -> n.errorPosition());
        compare(what + " load", () -> f.load(), () -> n.load());
        if (dice.nextInt(10) == 0) {
            compare(what + " clearText", () -> f.clearText(), () -> n.clearText());
        }
    }

    private static void call(String run, BeltFloor f, NaiveFloor n) {
        int c = cell(n);
        int k = upTo(6);
        int r = upTo(1);
        int d = upTo(3);
        int i = upTo(5);
        switch (dice.nextInt(16)) {
            case 0, 1 -> {
                compare(run + " setKind " + c + " " + k, () -> f.setKind(c, k), () -> n.setKind(c, k));
                compare(run + " kindOf " + c, () -> f.kindOf(c), () -> n.kindOf(c));
            }
            case 2, 3 -> compare(run + " addCrate " + c, () -> f.addCrate(c), () -> n.addCrate(c));
            case 4 -> compare(run + " takeCrate " + c, () -> f.takeCrate(c), () -> n.takeCrate(c));
            case 5 -> compare(run + " addCheckpoint " + c, () -> f.addCheckpoint(c), () -> n.addCheckpoint(c));
            case 6 -> compare(run + " putRobot " + r + " " + c + " " + d,
                    () -> f.putRobot(r, c, d), () -> n.putRobot(r, c, d));
            case 7, 8 -> {
                int often = dice.nextInt(8) == 0 ? i : Math.max(0, Math.min(dice.nextInt(4), 3));
                compare(run + " write " + r + " " + often, () -> f.write(r, often), () -> n.write(r, often));
            }
            case 9 -> {
                if (dice.nextInt(4) == 0) {
                    compare(run + " wipe " + r, () -> f.wipe(r), () -> n.wipe(r));
                }
            }
            case 10, 11, 12 -> {
                int s = dice.nextInt(10) == 0 ? oneOf(-1, 0, 40, 41, 17) : 1 + dice.nextInt(4);
                compare(run + " step " + s, () -> f.step(s), () -> n.step(s));
            }
            case 13 -> undoOrSave(run, f, n);
            case 14 -> wouldBe(run, f, n);
            default -> look(run, f, n);
        }
    }

    /** Where things are, and what is counted: a few cells alone. */
    private static void look(String run, BeltFloor f, NaiveFloor n) {
        for (int i = 0; i < 6; i++) {
            int c = cell(n);
            compare(run + " hasCrate " + c, () -> f.hasCrate(c) ? 1 : 0, () -> n.hasCrate(c) ? 1 : 0);
        }
        compare(run + " cratesByCells", () -> f.cratesByCells(), () -> n.cratesByCells());
        compare(run + " cratesByAccounts", () -> f.cratesByAccounts(), () -> n.cratesByAccounts());
        compare(run + " lost", () -> f.lost(), () -> n.lost());
        for (int robot = 0; robot < 2; robot++) {
            robot(run + " robot " + robot, robot, f, n);
        }
    }

    private static void undoOrSave(String run, BeltFloor f, NaiveFloor n) {
        int slot = upTo(1);
        switch (dice.nextInt(12)) {
            case 0 -> compare(run + " save " + slot, () -> f.save(slot), () -> n.save(slot));
            case 1 -> compare(run + " restore " + slot, () -> f.restore(slot), () -> n.restore(slot));
            case 2 -> compare(run + " load", () -> f.load(), () -> n.load());
            default -> {
                int times = dice.nextInt(12) == 0 ? 15 : 1 + dice.nextInt(3);
                for (int i = 0; i < times; i++) {
                    compare(run + " undo", () -> f.undo(), () -> n.undo());
                }
            }
        }
    }

    private static void wouldBe(String run, BeltFloor f, NaiveFloor n) {
        int r = upTo(1);
        int c = upTo(35);
        long seed = dice.nextBoolean() ? dice.nextLong() : dice.nextInt(5);
        int m = dice.nextInt(8) == 0 ? oneOf(-1, 0, 1, 60, 61) : 1 + dice.nextInt(60);
        compare(run + " rowAhead " + r, () -> f.rowAhead(r), () -> n.rowAhead(r));
        compare(run + " wouldClash", () -> f.wouldClash() ? 1 : 0, () -> n.wouldClash() ? 1 : 0);
        compare(run + " passesIn " + r, () -> f.passesIn(r), () -> n.passesIn(r));
        compare(run + " loopByWaiting", () -> f.loopByWaiting(), () -> n.loopByWaiting());
        compare(run + " loopByKeeping", () -> f.loopByKeeping(), () -> n.loopByKeeping());
        compare(run + " spread " + r + " " + c, () -> f.fewestBySpreading(r, c), () -> n.fewestBySpreading(r, c));
        compare(run + " sweep " + r + " " + c, () -> f.fewestBySweeping(r, c), () -> n.fewestBySweeping(r, c));
        compare(run + " simulate " + seed + " " + m, () -> f.simulate(seed, m), () -> n.simulate(seed, m));
        for (int i = 0; i < 20; i++) {
            int to = dice.nextInt(36);
            compare(run + " both ways to " + to, () -> f.fewestBySweeping(to % 2, to), () -> n.fewestBySpreading(to % 2, to));
        }
    }

    private static void everything(String run, BeltFloor f, NaiveFloor n) {
        for (int cell = -1; cell <= 36; cell++) {
            int c = cell;
            compare(run + " kindOf " + c, () -> f.kindOf(c), () -> n.kindOf(c));
            compare(run + " hasCrate " + c, () -> f.hasCrate(c) ? 1 : 0, () -> n.hasCrate(c) ? 1 : 0);
        }
        compare(run + " cratesByCells", () -> f.cratesByCells(), () -> n.cratesByCells());
        compare(run + " cratesByAccounts", () -> f.cratesByAccounts(), () -> n.cratesByAccounts());
        compare(run + " lost", () -> f.lost(), () -> n.lost());
        compare(run + " steps", () -> f.steps(), () -> n.steps());
        compare(run + " checkpoints", () -> f.checkpoints(), () -> n.checkpoints());
        for (int checkpoint = 0; checkpoint <= 5; checkpoint++) {
            int p = checkpoint;
            compare(run + " cellOfCheckpoint " + p, () -> f.cellOfCheckpoint(p), () -> n.cellOfCheckpoint(p));
        }
        for (int robot = -1; robot <= 2; robot++) {
            robot(run + " robot " + robot, robot, f, n);
            program(run + " robot " + robot, robot, f, n);
        }
    }

    private static void robot(String run, int r, BeltFloor f, NaiveFloor n) {
        compare(run + " cellOf", () -> f.cellOf(r), () -> n.cellOf(r));
        compare(run + " facingOf", () -> f.facingOf(r), () -> n.facingOf(r));
        compare(run + " nextOf", () -> f.nextOf(r), () -> n.nextOf(r));
        compare(run + " isHome", () -> f.isHome(r) ? 1 : 0, () -> n.isHome(r) ? 1 : 0);
        compare(run + " movesOf", () -> f.movesOf(r), () -> n.movesOf(r));
        compare(run + " bumpsOf", () -> f.bumpsOf(r), () -> n.bumpsOf(r));
        compare(run + " pushesOf", () -> f.pushesOf(r), () -> n.pushesOf(r));
        compare(run + " fallsOf", () -> f.fallsOf(r), () -> n.fallsOf(r));
        compare(run + " lengthOf", () -> f.lengthOf(r), () -> n.lengthOf(r));
        compare(run + " placeOf", () -> f.placeOf(r), () -> n.placeOf(r));
    }

    private static void program(String run, int r, BeltFloor f, NaiveFloor n) {
        for (int place = -1; place <= 10; place++) {
            int p = place;
            compare(run + " instructionAt " + p, () -> f.instructionAt(r, p), () -> n.instructionAt(r, p));
        }
    }
}
