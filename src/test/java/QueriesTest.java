/** Promises 6 to 24: what the floor, the robots and the programs tell. */
final class QueriesTest {
    private static final int[] WRONG_ROBOTS = {-1, 2, 30, Integer.MIN_VALUE, Integer.MAX_VALUE};
    private static final int[] WRONG_CELLS = {-1, 36, 64, 99, Integer.MIN_VALUE, Integer.MAX_VALUE};

    public static void main(String[] args) {
        kindsAndCrates();
        cratesAndLost();
        checkpoints();
        wrongRobots();
        cellsAndFacings();
        nextAndHome();
        counts();
        steps();
        programs();
        Check.end();
    }

    private static void kindsAndCrates() {
        BeltFloor f = new BeltFloor();
        for (int kind = 0; kind < 7; kind++) {
            f.setKind(5 + kind, kind);
            Check.same("kind " + kind, f.kindOf(5 + kind), kind);
        }
        f.addCrate(0);
        f.addCrate(29);
        for (int cell = 0; cell < 36; cell++) {
            Check.same("crate on " + cell, f.hasCrate(cell), cell == 0 || cell == 29);
        }
        for (int cell : WRONG_CELLS) {
            Check.noCell("kindOf " + cell, () -> f.kindOf(cell));
            Check.noCell("hasCrate " + cell, () -> f.hasCrate(cell) ? 1 : 0);
        }
    }

    private static void cratesAndLost() {
        BeltFloor f = Floors.of("...... .eo... ...... ...... ...... ......", "c07c01c02c03");
        crates(f, 4, 0);
        f.takeCrate(2);
        crates(f, 3, 0);
        f.step(1);
        crates(f, 2, 1);
        f.addCrate(7);
        crates(f, 3, 1);
        f.step(1);
        crates(f, 2, 2);
        f.undo();
        crates(f, 3, 1);
    }

    private static void crates(BeltFloor f, int crates, int lost) {
        Check.same("cratesByCells", f.cratesByCells(), crates);
        Check.same("cratesByAccounts", f.cratesByAccounts(), crates);
        Check.same("lost", f.lost(), lost);
    }

    private static void checkpoints() {
        BeltFloor f = new BeltFloor();
        Check.noCell("checkpoint 1 of none", () -> f.cellOfCheckpoint(1));
        int[] cells = {9, 0, 35, 17};
        for (int i = 0; i < 4; i++) {
            int behind = i + 1;
            Check.noCell("checkpoint " + behind, () -> f.cellOfCheckpoint(behind));
            f.addCheckpoint(cells[i]);
            Check.same("checkpoints", f.checkpoints(), i + 1);
            Check.same("cell", f.cellOfCheckpoint(i + 1), cells[i]);
            Check.same("cell of the first", f.cellOfCheckpoint(1), 9);
        }
        Check.noCell("checkpoint 5", () -> f.cellOfCheckpoint(5));
        Check.noCell("checkpoint 0", () -> f.cellOfCheckpoint(0));
        Check.noCell("checkpoint -1", () -> f.cellOfCheckpoint(-1));
        Check.noCell("checkpoint MIN", () -> f.cellOfCheckpoint(Integer.MIN_VALUE));
        Check.noCell("checkpoint MAX", () -> f.cellOfCheckpoint(Integer.MAX_VALUE));
    }

    private static void wrongRobots() {
        BeltFloor f = Floors.of(Floors.EMPTY + "i00.i11.");
        for (int robot : WRONG_ROBOTS) {
            Check.noCell("cellOf " + robot, () -> f.cellOf(robot));
            Check.noCell("facingOf " + robot, () -> f.facingOf(robot));
            Check.noCell("nextOf " + robot, () -> f.nextOf(robot));
            Check.noCell("isHome " + robot, () -> f.isHome(robot) ? 1 : 0);
            Check.noCell("movesOf " + robot, () -> f.movesOf(robot));
            Check.noCell("bumpsOf " + robot, () -> f.bumpsOf(robot));
            Check.noCell("pushesOf " + robot, () -> f.pushesOf(robot));
            Check.noCell("fallsOf " + robot, () -> f.fallsOf(robot));
            Check.noCell("lengthOf " + robot, () -> f.lengthOf(robot));
            Check.noCell("placeOf " + robot, () -> f.placeOf(robot));
            Check.noCell("instructionAt " + robot, () -> f.instructionAt(robot, 0));
            Check.noCell("rowAhead " + robot, () -> f.rowAhead(robot));
            Check.noCell("passesIn " + robot, () -> f.passesIn(robot));
            Check.noCell("fewestBySpreading " + robot, () -> f.fewestBySpreading(robot, 0));
            Check.noCell("fewestBySweeping " + robot, () -> f.fewestBySweeping(robot, 0));
        }
    }

    private static void cellsAndFacings() {
        BeltFloor f = new BeltFloor();
        for (int facing = 0; facing < 4; facing++) {
            f.putRobot(0, 8 + facing, facing);
            f.putRobot(1, 18 - facing, 3 - facing);
            Check.same("cell of 0", f.cellOf(0), 8 + facing);
            Check.same("cell of 1", f.cellOf(1), 18 - facing);
            Check.same("facing of 0", f.facingOf(0), facing);
            Check.same("facing of 1", f.facingOf(1), 3 - facing);
        }
    }

    private static void nextAndHome() {
        BeltFloor f = Floors.of(Floors.EMPTY + "i00.");
        homeOf(f, 0, 1, false);
        f.addCheckpoint(24);
        f.addCheckpoint(18);
        homeOf(f, 0, 1, false);
        f.step(1);
        homeOf(f, 0, 2, false);
        f.step(1);
        homeOf(f, 0, 3, true);
        homeOf(f, 1, 1, false);
        f.addCheckpoint(0);
        homeOf(f, 0, 3, false);
        f.addCheckpoint(1);
        f.undo();
        f.undo();
        homeOf(f, 0, 3, true);
    }

    private static void homeOf(BeltFloor f, int robot, int next, boolean home) {
        Check.same("next of " + robot, f.nextOf(robot), next);
        Check.same("home of " + robot, f.isHome(robot), home);
    }

    private static void counts() {
        // The robot 0 pushes two crates to the edge, then bumps; the robot 1 goes round, and falls later.
        BeltFloor f = Floors.of("...... ...... ...... ...... .....o ......", "c24c18r1112i00.i130.i05.");
        f.step(1);
        counted(f, 0, 1, 0, 2, 0);
        counted(f, 1, 0, 0, 0, 0);
        f.step(1);
        counted(f, 0, 1, 0, 2, 0);
        counted(f, 1, 1, 0, 0, 0);
        f.step(2);
        counted(f, 0, 2, 0, 4, 0);
        f.step(2);
        counted(f, 0, 3, 0, 6, 0);
        f.step(2);
        counted(f, 0, 3, 1, 6, 0);
        f.putRobot(1, 23, 2);
        f.wipe(1);
        f.write(1, 0);
        f.write(1, 5);
        f.write(1, 0);
        int moves = f.movesOf(1);
        Check.same("moves of 1", moves, 4);
        f.step(1);
        Check.same("moves", f.movesOf(1), moves + 1);
        Check.same("falls", f.fallsOf(1), 1);
        Check.same("falls of 0", f.fallsOf(0), 0);
        Check.same("bumps", f.bumpsOf(0), 2);
    }

    private static void counted(BeltFloor f, int robot, int moves, int bumps, int pushes, int falls) {
        Check.same("moves of " + robot, f.movesOf(robot), moves);
        Check.same("bumps of " + robot, f.bumpsOf(robot), bumps);
        Check.same("pushes of " + robot, f.pushesOf(robot), pushes);
        Check.same("falls of " + robot, f.fallsOf(robot), falls);
    }

    private static void steps() {
        BeltFloor f = new BeltFloor();
        f.step(1);
        Check.same("steps", f.steps(), 1);
        f.step(40);
        Check.same("steps", f.steps(), 41);
        f.passesIn(0);
        f.loopByWaiting();
        f.simulate(1, 60);
        Check.same("steps that only would be", f.steps(), 41);
        f.undo();
        Check.same("steps behind undo", f.steps(), 1);
    }

    private static void programs() {
        BeltFloor f = new BeltFloor();
        Check.noCell("place 0 of no program", () -> f.instructionAt(0, 0));
        for (int i = 0; i < 10; i++) {
            Check.same("length", f.lengthOf(1), i);
            int behind = i;
            Check.noCell("place " + i, () -> f.instructionAt(1, behind));
            f.write(1, i % 6);
            for (int place = 0; place <= i; place++) {
                Check.same("instruction", f.instructionAt(1, place), place % 6);
            }
        }
        for (int place : new int[] {-1, 10, Integer.MIN_VALUE, Integer.MAX_VALUE}) {
            Check.noCell("place " + place, () -> f.instructionAt(1, place));
        }
        Check.noCell("the other one's place", () -> f.instructionAt(0, 0));
        for (int place = 0; place < 10; place++) {
            Check.same("place", f.placeOf(1), place);
            f.step(1);
            Check.same("place without a program", f.placeOf(0), 0);
        }
        Check.same("the first one again", f.placeOf(1), 0);
        f.step(23);
        Check.same("place behind 33 steps", f.placeOf(1), 3);
        f.wipe(1);
        Check.same("place behind wipe", f.placeOf(1), 0);
        Check.noCell("place 0 behind wipe", () -> f.instructionAt(1, 0));
    }
}
