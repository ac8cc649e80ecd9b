/** The sentences of promise 41. */
final class SimulationSentences {
    private static final String EMPTY = Floors.EMPTY;

    private SimulationSentences() {
    }

    static void all() {
        Doc.promise(41, "Simulates m turns", SimulationSentences::turns);
        Doc.promise(41, "on a copy of the state.", SimulationSentences::copy);
        Doc.promise(41, "A long x starts as the seed.", SimulationSentences::startsAsTheSeed);
        Doc.promise(41, "Each turn first replaces x by x * 6364136223846793005L + 1442695040888963407L (with long"
                + " overflow), and r = (int) (x >>> 33) is computed.", SimulationSentences::eachTurnReplacesX);
        Doc.promise(41, "q is r / 16.", SimulationSentences::greatestQ);
        Doc.promise(41, "By r % 16: 0 to 2: setKind(q % 36, q / 64 % 7).", SimulationSentences::kinds);
        Doc.promise(41, "3 and 4: addCrate(q % 36).", SimulationSentences::crates);
        Doc.promise(41, "5: addCheckpoint(q % 36).", SimulationSentences::checkpoints);
        Doc.promise(41, "6: putRobot(q % 2, q / 2 % 36, q / 128 % 4).", SimulationSentences::robots);
        Doc.promise(41, "7 to 10: write(q % 2, q / 2 % 6).", SimulationSentences::writes);
        Doc.promise(41, "11: wipe(q % 2), if q / 2 % 4 is 0.", SimulationSentences::wipes);
        Doc.promise(41, "Otherwise: step(1 + q % 4).", SimulationSentences::steps);
        Doc.promise(41, "What would throw an exception is left out.", SimulationSentences::leavesOut);
        Doc.promise(41, "`seed`: any long", SimulationSentences::anyLong);
        Doc.promise(41, "`m`: number of turns, 1 to 60", SimulationSentences::oneTo60);
        Doc.promise(41, "Returns 10000 * (the checkpoints that are passed in the turns) + 100 * (the cell of the robot 0"
                + " at the end) + (the cell of the robot 1 at the end).", SimulationSentences::returns);
        Doc.promise(41, "Throws `IllegalArgumentException` if m is out of range", SimulationSentences::outOfRange);
    }

    private static void same(Whole.Script script, long seed, int m) {
        Check.same("simulate(" + seed + ", " + m + ")", Whole.after(script).simulate(seed, m), Turns.due(script, seed, m));
    }

    /** What two turns answer: the first one is made by 16 * q + remainder, the second one makes steps. */
    private static int simulated(String text, int remainder, int q, int steps) {
        return Floors.of(text).simulate(Turns.seed(remainder, q, Turns.steps(steps)), 2);
    }

    private static void turns() {
        for (Whole.Script script : Whole.SCRIPTS) {
            for (int m = 1; m <= 60; m++) {
                same(script, 12345L * m, m);
            }
        }
        // One turn more may be one that moves a robot.
        long seed = Turns.seed(6, 172, Turns.steps(3));
        Check.same("one turn", Floors.of(EMPTY + "i00.").simulate(seed, 1), 1435);
        Check.same("two turns", Floors.of(EMPTY + "i00.").simulate(seed, 2), 1735);
    }

    private static void copy() {
        for (long seed : new long[] {0L, 1L, 99L, Long.MIN_VALUE}) {
            Whole.keeps("simulate", f -> f.simulate(seed, 60), Whole.ALL);
        }
        BeltFloor f = Whole.after(Whole.BUSY);
        int first = f.simulate(99L, 60);
        Check.same("the same again", f.simulate(99L, 60), first);
        f.simulate(4L, 30);
        Check.same("the same behind another one", f.simulate(99L, 60), first);
        f.step(1);
        Check.same("of the state as it is then", f.simulate(99L, 60), Turns.due(g -> {
            Whole.BUSY.play(g);
            g.step(1);
        }, 99L, 60));
    }

    private static void startsAsTheSeed() {
        // Seeds that differ in one bit alone make other turns.
        Whole.Script script = f -> Floors.type(f, EMPTY);
        for (int bit = 0; bit < 64; bit++) {
            same(script, 1L << bit, 60);
            same(Whole.BUSY, 1L << bit, 20);
        }
        long seed = Turns.seed(6, 2 * 8, r -> true);
        Check.same("wanted", new BeltFloor().simulate(seed, 1), 835);
        Check.same("the next seed", new BeltFloor().simulate(seed + 1, 1), Turns.due(Whole.NEW, seed + 1, 1));
    }

    private static void eachTurnReplacesX() {
        for (long seed = -200; seed < 200; seed++) {
            same(Whole.BUSY, seed, 1);
            same(Whole.BUSY, seed, 2);
            same(Whole.FEW, seed * 7777777777777L, 60);
        }
    }

    private static void greatestQ() {
        // The greatest r there is: 16 * 134217727 + 15, which makes 1 + 134217727 % 4 = 4 steps.
        int most = Integer.MAX_VALUE / 16;
        Check.same("q", most, 134217727);
        long seed = Turns.seed(15, most, r -> true);
        Check.same("the greatest r", Floors.of(EMPTY + "i00.").simulate(seed, 1), 635);
        for (int remainder = 0; remainder < 16; remainder++) {
            for (int q : new int[] {0, 1, most - 1, most}) {
                long one = Turns.seed(remainder, q, Turns.steps(2));
                same(Whole.BUSY, one, 1);
                same(Whole.FEW, one, 2);
                same(Whole.NEW, one, 60);
            }
        }
    }

    private static void kinds() {
        // A kind under the robot 0, and a step: a belt carries it, a block and a pit are left out.
        int[] due = {1435, 1435, 1435, 835, 1535, 2035, 1335};
        for (int remainder = 0; remainder <= 2; remainder++) {
            for (int kind = 0; kind <= 6; kind++) {
                int q = qOf(36, 14, 64, 7, kind);
                Check.same("kind " + kind, simulated(EMPTY + "r0140", remainder, q, 1), due[kind]);
            }
            for (int cell = 0; cell < 30; cell++) {
                String two = (cell < 10 ? "0" : "") + cell;
                int behind = Floors.beside(cell, 1) < 0 ? cell : cell + 1;
                int q = qOf(36, cell, 64, 7, 4);
                Check.same("cell " + cell, simulated(EMPTY + "r0" + two + "0", remainder, q, 1), 100 * behind + 35);
            }
            // A block and a pit ahead of it.
            int block = qOf(36, 24, 64, 7, 1);
            Check.same("a block", simulated(EMPTY + "i00.", remainder, block, 1), 3035);
            int pit = qOf(36, 24, 64, 7, 2);
            Check.same("a pit", simulated(EMPTY + "i00.", remainder, pit, 1), 35);
        }
    }

    /** The least q for which q % a is x and q / b % c is y. */
    private static int qOf(int a, int x, int b, int c, int y) {
        int q = 0;
        while (q % a != x || q / b % c != y) {
            q++;
        }
        return q;
    }

    private static void crates() {
        for (int remainder = 3; remainder <= 4; remainder++) {
            for (int times = 0; times < 3; times++) {
                Check.same("a crate ahead, at the edge", simulated(EMPTY + "r0060i00.", remainder, 36 * times, 1), 635);
                Check.same("a crate elsewhere", simulated(EMPTY + "r0060i00.", remainder, 36 * times + 1, 1), 35);
            }
            Check.same("on the robot", simulated(EMPTY + "r0060i00.", remainder, 6, 1), 35);
            Check.same("a ninth one", simulated(EMPTY + "r0060i00.c10c11c12c13c14c15c16c17", remainder, 0, 1), 35);
        }
    }

    private static void checkpoints() {
        for (int times = 0; times < 3; times++) {
            Check.same("a checkpoint ahead", simulated(EMPTY + "i00.", 5, 36 * times + 24, 1), 12435);
            Check.same("where it stands", simulated(EMPTY + "i00.", 5, 36 * times + 30, 1), 2435);
            Check.same("under the other one", simulated(EMPTY + "i00.", 5, 36 * times + 35, 1), 12435);
        }
        Check.same("a second one", simulated(EMPTY + "i00.p24", 5, 18, 2), 21835);
        Check.same("on one that is there", simulated(EMPTY + "i00.p24", 5, 24, 1), 12435);
        Check.same("a fifth one", simulated(EMPTY + "i00.p24p00p01p02", 5, 18, 2), 11835);
    }

    private static void robots() {
        for (int cell = 0; cell < 30; cell++) {
            long zero = Turns.seed(6, 2 * cell, r -> true);
            Check.same("robot 0 onto " + cell, new BeltFloor().simulate(zero, 1), 100 * cell + 35);
            long one = Turns.seed(6, 2 * cell + 1, r -> true);
            Check.same("robot 1 onto " + cell, new BeltFloor().simulate(one, 1), 3000 + cell);
        }
        for (int facing = 0; facing < 4; facing++) {
            for (int robot = 0; robot < 2; robot++) {
                int q = robot;
                while (q % 2 != robot || q / 2 % 36 != 14 || q / 128 % 4 != facing) {
                    q++;
                }
                int cell = Floors.beside(14, facing);
                Check.same("robot " + robot + " facing " + facing, simulated(EMPTY + "i0" + "5".repeat(robot) + "0.i1"
                        + "5".repeat(1 - robot) + "0.", 6, q, 1), robot == 0 ? 100 * cell + 35 : 3000 + cell);
            }
        }
        Check.same("onto the other one", new BeltFloor().simulate(Turns.seed(6, 2 * 35, r -> true), 1), 3035);
    }

    private static void writes() {
        // The program is "0" before: it goes forward, does what was written, and goes forward.
        int[] due = {8, 20, 19, 21, 26, 14};
        for (int remainder = 7; remainder <= 10; remainder++) {
            for (int instruction = 0; instruction <= 5; instruction++) {
                for (int times = 0; times < 2; times++) {
                    int q = 2 * instruction + 12 * times;
                    Check.same("written for 0: " + instruction, simulated(EMPTY + "r0260i00.", remainder, q, 3),
                            100 * due[instruction] + 35);
                    Check.same("written for 1: " + instruction, simulated(EMPTY + "r1260i10.", remainder, q + 1, 3),
                            3000 + due[instruction]);
                }
            }
            Check.same("an eleventh one", simulated(EMPTY + "i00555555555.", remainder, 0, 1), 2435);
        }
    }

    private static void wipes() {
        for (int q = 0; q < 64; q++) {
            boolean wiped = q / 2 % 4 == 0;
            int zero = wiped && q % 2 == 0 ? 30 : 24;
            int one = wiped && q % 2 == 1 ? 35 : 29;
            Check.same("q " + q, simulated(EMPTY + "i00.i10.", 11, q, 1), 100 * zero + one);
        }
    }

    private static void steps() {
        for (int remainder = 12; remainder <= 15; remainder++) {
            for (int q = 0; q < 12; q++) {
                long seed = Turns.seed(remainder, q, r -> true);
                int cell = 30 - 6 * (1 + q % 4);
                Check.same("q " + q, Floors.of(EMPTY + "i00.").simulate(seed, 1), 100 * cell + 35);
            }
        }
        // 11 makes none, whatever q is.
        for (int q = 0; q < 12; q++) {
            long seed = Turns.seed(11, q, r -> true);
            Check.same("11, q " + q, Floors.of(EMPTY + "i00.").simulate(seed, 1), 3035);
        }
    }

    private static void leavesOut() {
        // What is left out ends nothing: the steps behind it are made.
        String full = EMPTY + "i00123450123.i10123450123.p00p01p02p03c06c07c08c09c10c11c12c13";
        Check.same("a ninth crate", simulated(full, 3, 33, 1), 2429);
        Check.same("a fifth checkpoint", simulated(full, 5, 33, 1), 2429);
        Check.same("an eleventh instruction", simulated(full, 7, 0, 1), 2429);
        Check.same("a block under a robot", simulated(EMPTY + "i00.", 0, qOf(36, 30, 64, 7, 1), 1), 2435);
        Check.same("a robot onto a crate", simulated(EMPTY + "c07i00.", 6, 2 * 7, 1), 2435);
        for (long seed = 0; seed < 200; seed++) {
            same(Whole.FULL, seed, 60);
        }
    }

    private static void anyLong() {
        for (long seed : new long[] {0L, 1L, -1L, Long.MIN_VALUE, Long.MAX_VALUE, Long.MIN_VALUE + 1, 1L << 32, 1L << 33,
            -1L << 33, 0x5555555555555555L}) {
            for (Whole.Script script : Whole.SCRIPTS) {
                same(script, seed, 60);
                same(script, seed, 1);
            }
        }
    }

    private static void oneTo60() {
        BeltFloor f = new BeltFloor();
        for (int m = 1; m <= 60; m++) {
            Check.same("m " + m, f.simulate(8L, m), Turns.due(Whole.NEW, 8L, m));
        }
    }

    private static void returns() {
        Check.same("no checkpoint, the cells 30 and 24", simulated(EMPTY + "r1240", 11, 2, 1), 3024);
        Check.same("one checkpoint", simulated(EMPTY + "i00.p24", 11, 2, 1), 12435);
        Check.same("two by one robot", simulated(EMPTY + "i00.p24p18", 11, 2, 2), 21835);
        Check.same("one each by both robots", simulated(EMPTY + "r0141r1121i00.i10.p15", 11, 2, 3), 21715);
        Check.same("the cells 0 and 1", simulated(EMPTY + "r0000r1010", 11, 2, 1), 1);
        Check.same("those that were passed before do not count", passedBefore(), 11235);
    }

    /** One checkpoint was passed before, one is passed in the turns. */
    private static int passedBefore() {
        BeltFloor f = Floors.of(EMPTY + "i00.p24p12");
        f.step(1);
        return f.simulate(Turns.seed(11, 2, Turns.steps(2)), 2);
    }

    private static void outOfRange() {
        for (int m : new int[] {0, -1, 61, 62, 256 + 1, Integer.MIN_VALUE, Integer.MAX_VALUE}) {
            Whole.refusesArgument("m " + m, f -> f.simulate(1L, m));
        }
    }
}
