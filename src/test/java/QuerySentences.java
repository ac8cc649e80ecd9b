/** The sentences of the promises 6 to 24. */
final class QuerySentences {
    private static final String NO_ROBOT = "Throws `IndexOutOfBoundsException` if there is no such robot";

    /** A call that names a robot. */
    private interface RobotCall {
        long of(BeltFloor f, int robot);
    }

    private QuerySentences() {
    }

    static void all() {
        floor();
        crates();
        checkpoints();
        robots();
        programs();
    }

    // ---- the floor

    private static void floor() {
        Doc.promise(6, "Returns the kind of a cell.", QuerySentences::kindsOfCells);
        Doc.promise(6, "`cell`: 0 to 35", () -> eachCell(BeltFloor::kindOf));
        Doc.promise(6, "Returns 0 to 6.", QuerySentences::eachKind);
        Doc.promise(6, "Throws `IndexOutOfBoundsException` if there is no such cell", () -> noSuchCell(BeltFloor::kindOf));
        Doc.promise(7, "Tells whether a crate is on a cell.", QuerySentences::cratesOnCells);
        Doc.promise(7, "`cell`: 0 to 35", () -> eachCell(QuerySentences::crateOn));
        Doc.promise(7, "Returns whether one is.", QuerySentences::noOtherThings);
        Doc.promise(7, "Throws `IndexOutOfBoundsException` if there is no such cell",
                () -> noSuchCell(QuerySentences::crateOn));
    }

    private static long crateOn(BeltFloor f, int cell) {
        return f.hasCrate(cell) ? 1 : 0;
    }

    /** Each of the 36 cells is answered, and nothing changes. */
    private static void eachCell(RobotCall call) {
        BeltFloor f = Whole.after(Whole.BUSY);
        for (int cell = 0; cell < 36; cell++) {
            int c = cell;
            Check.same("cell " + c, Check.outcome(() -> call.of(f, c)).startsWith("answers"), true);
        }
        for (int cell : new int[] {0, 7, 35}) {
            Whole.keeps("cell " + cell, g -> call.of(g, cell), Whole.ALL);
        }
    }

    private static void noSuchCell(RobotCall call) {
        for (int cell : Floors.WRONG_CELLS) {
            Whole.refusesIndex("cell " + cell, f -> call.of(f, cell));
        }
    }

    private static void kindsOfCells() {
        BeltFloor f = new BeltFloor();
        for (int cell = 0; cell < 36; cell++) {
            f.setKind(cell, cell % 2 == 0 ? 3 : 4 + cell % 3);
        }
        for (int cell = 0; cell < 36; cell++) {
            Check.same("kind of " + cell, f.kindOf(cell), cell % 2 == 0 ? 3 : 4 + cell % 3);
        }
    }

    private static void eachKind() {
        for (int cell : new int[] {0, 17, 34}) {
            BeltFloor f = new BeltFloor();
            for (int kind = 6; kind >= 0; kind--) {
                f.setKind(cell, kind);
                Check.same("kind", f.kindOf(cell), kind);
            }
        }
    }

    private static void cratesOnCells() {
        BeltFloor f = Floors.of("...... .e.... ...... ...... ...... ......", "c00c07c34");
        for (int cell = 0; cell < 36; cell++) {
            Check.same("crate on " + cell, f.hasCrate(cell), cell == 0 || cell == 7 || cell == 34);
        }
        f.step(1);
        Check.same("carried away", f.hasCrate(7), false);
        Check.same("carried there", f.hasCrate(8), true);
        f.takeCrate(0);
        Check.same("taken away", f.hasCrate(0), false);
    }

    private static void noOtherThings() {
        BeltFloor f = Floors.of("#o.nes ...... ...... ...... ...... ......", "p08");
        for (int cell = 0; cell < 36; cell++) {
            Check.same("a robot, a checkpoint, a kind on " + cell, f.hasCrate(cell), false);
        }
        f.addCrate(8);
        Check.same("on a checkpoint", f.hasCrate(8), true);
    }

    // ---- crates

    private static void crates() {
        Doc.promise(8, "Returns the number of crates, told by the cells.", QuerySentences::byCells);
        Doc.promise(9, "Returns the number of crates, told by those that were added, taken away and lost (the same).",
                QuerySentences::byAccounts);
        Doc.promise(10, "Returns the number of crates that were lost so far.", QuerySentences::lost);
    }

    private static void crates(BeltFloor f, int crates, int lost) {
        Check.same("cratesByCells", f.cratesByCells(), crates);
        Check.same("cratesByAccounts", f.cratesByAccounts(), crates);
        Check.same("lost", f.lost(), lost);
    }

    private static void byCells() {
        BeltFloor f = new BeltFloor();
        Check.same("none", f.cratesByCells(), 0);
        int[] cells = {0, 5, 6, 11, 24, 29, 31, 34};
        for (int n = 1; n <= 8; n++) {
            f.addCrate(cells[n - 1]);
            Check.same("crates", f.cratesByCells(), n);
        }
        for (int n = 7; n >= 0; n--) {
            f.takeCrate(cells[n]);
            Check.same("crates", f.cratesByCells(), n);
        }
        Whole.keeps("cratesByCells", BeltFloor::cratesByCells, Whole.ALL);
    }

    private static void byAccounts() {
        BeltFloor f = Floors.of("...... .eo... ...... ...... ...... ......", "c07c01c02c03");
        crates(f, 4, 0);
        f.takeCrate(2);
        crates(f, 3, 0);
        f.step(1);
        crates(f, 2, 1);
        f.addCrate(7);
        crates(f, 3, 1);
        f.save(0);
        f.step(1);
        crates(f, 2, 2);
        f.undo();
        crates(f, 3, 1);
        f.takeCrate(1);
        f.takeCrate(3);
        f.takeCrate(7);
        crates(f, 0, 1);
        f.restore(0);
        crates(f, 3, 1);
        f.clearText();
        Floors.type(f, Floors.EMPTY + "c00");
        f.load();
        crates(f, 1, 0);
        Whole.keeps("cratesByAccounts", BeltFloor::cratesByAccounts, Whole.ALL);
    }

    private static void lost() {
        BeltFloor f = Floors.of("...... .eo... ...... ...... ...... ......", "");
        for (int n = 1; n <= 9; n++) {
            f.addCrate(7);
            Check.same("before the step", f.lost(), n - 1);
            f.step(1);
            Check.same("behind it", f.lost(), n);
        }
        f.addCrate(7);
        f.takeCrate(7);
        Check.same("one that is taken away is not lost", f.lost(), 9);
        f.putRobot(1, 7, 0);
        f.step(1);
        Check.same("a robot is not lost", f.lost(), 9);
        Whole.keeps("lost", BeltFloor::lost, Whole.ALL);
    }

    // ---- checkpoints

    private static void checkpoints() {
        Doc.promise(11, "Returns the number of checkpoints.", QuerySentences::numberOfCheckpoints);
        Doc.promise(12, "Returns the cell of a checkpoint.", QuerySentences::cellsOfCheckpoints);
        Doc.promise(12, "`checkpoint`: 1 for the first one", QuerySentences::firstCheckpoint);
        Doc.promise(12, "Returns the cell.", QuerySentences::extremeCells);
        Doc.promise(12, "Throws `IndexOutOfBoundsException` if there is no such checkpoint",
                QuerySentences::noSuchCheckpoint);
    }

    private static void numberOfCheckpoints() {
        BeltFloor f = new BeltFloor();
        for (int n = 0; n < 4; n++) {
            Check.same("checkpoints", f.checkpoints(), n);
            f.addCheckpoint(30 - n);
        }
        Check.same("checkpoints", f.checkpoints(), 4);
        f.step(1);
        Check.same("one that is passed stays", f.checkpoints(), 4);
        f.undo();
        f.undo();
        Check.same("one less", f.checkpoints(), 3);
        Whole.keeps("checkpoints", BeltFloor::checkpoints, Whole.ALL);
    }

    private static void cellsOfCheckpoints() {
        BeltFloor f = Floors.of(Floors.EMPTY + "p09p00p35p17");
        int[] due = {9, 0, 35, 17};
        for (int n = 1; n <= 4; n++) {
            Check.same("cell of " + n, f.cellOfCheckpoint(n), due[n - 1]);
        }
    }

    private static void firstCheckpoint() {
        BeltFloor f = new BeltFloor();
        f.addCheckpoint(7);
        Check.same("the first one", f.cellOfCheckpoint(1), 7);
        f.addCheckpoint(3);
        Check.same("the first one, with a second one", f.cellOfCheckpoint(1), 7);
        Check.noCell("number 0", () -> f.cellOfCheckpoint(0));
        Whole.keeps("cellOfCheckpoint", g -> g.cellOfCheckpoint(1), Whole.ALL);
    }

    private static void extremeCells() {
        BeltFloor f = Floors.of(Floors.EMPTY + "p00p35");
        Check.same("the least one", f.cellOfCheckpoint(1), 0);
        Check.same("the greatest one", f.cellOfCheckpoint(2), 35);
    }

    private static void noSuchCheckpoint() {
        for (int checkpoint : new int[] {0, -1, 5, 6, Integer.MIN_VALUE, Integer.MAX_VALUE}) {
            Whole.refusesIndex("checkpoint " + checkpoint, f -> f.cellOfCheckpoint(checkpoint));
        }
        for (int n = 0; n < 4; n++) {
            int behind = n + 1;
            Whole.refuses("checkpoint " + behind + " of " + n, f -> {
                for (int i = 0; i < behind - 1; i++) {
                    f.addCheckpoint(i);
                }
            }, f -> f.cellOfCheckpoint(behind), "IndexOutOfBoundsException");
        }
        Whole.refuses("one that was taken back", f -> {
            f.addCheckpoint(8);
            f.addCheckpoint(9);
            f.undo();
        }, f -> f.cellOfCheckpoint(2), "IndexOutOfBoundsException");
    }

    // ---- robots

    private static void robots() {
        robot(13, "Returns the cell of a robot.", QuerySentences::cells,
                "Returns the cell.", QuerySentences::cellsBehindSteps, BeltFloor::cellOf);
        robot(14, "Returns the direction that a robot faces.", QuerySentences::facings,
                "Returns 0 to 3.", QuerySentences::facingsBehindSteps, BeltFloor::facingOf);
        robot(15, "Returns the next checkpoint of a robot.", QuerySentences::nextOnes,
                "Returns its number, also if there is none with it (yet).", QuerySentences::nextOnesNotThere,
                BeltFloor::nextOf);
        robot(16, "Tells whether a robot is home.", QuerySentences::homes,
                "Returns whether it is.", QuerySentences::homesWithoutCheckpoints, QuerySentences::home);
        robot(17, "Tells how often a robot moved by itself.", QuerySentences::movesByItself,
                "Returns how often so far.", QuerySentences::movesSoFar, BeltFloor::movesOf);
        robot(18, "Tells how often a robot bumped.", QuerySentences::bumps,
                "Returns how often so far.", QuerySentences::bumpsSoFar, BeltFloor::bumpsOf);
        robot(19, "Tells how many things a robot pushed.", QuerySentences::pushes,
                "Returns how many so far, each as often as it was pushed.", QuerySentences::pushesSoFar,
                BeltFloor::pushesOf);
        robot(20, "Tells how often a robot fell.", QuerySentences::falls,
                "Returns how often so far.", QuerySentences::fallsSoFar, BeltFloor::fallsOf);
        Doc.promise(21, "Returns the number of steps so far.", QuerySentences::steps);
    }

    /** The rows of a promise about a robot: what it tells, what it returns, its argument, what it throws. */
    private static void robot(int promise, String tells, Runnable telling, String returns, Runnable returning,
            RobotCall call) {
        Doc.promise(promise, tells, telling);
        Doc.promise(promise, returns, returning);
        Doc.promise(promise, "`robot`: 0 or 1", () -> bothRobots(promise, call));
        Doc.promise(promise, NO_ROBOT, () -> noSuchRobot(call));
    }

    private static long home(BeltFloor f, int robot) {
        return f.isHome(robot) ? 1 : 0;
    }

    private static void noSuchRobot(RobotCall call) {
        for (int robot : Floors.WRONG_ROBOTS) {
            Whole.refusesIndex("robot " + robot, f -> call.of(f, robot));
        }
    }

    /** One robot pushes two crates, and passes both checkpoints; the other one bumps twice, and falls. */
    private static BeltFloor unlike(int one) {
        BeltFloor f = Floors.of("...... ...o.. ...... ...... ...... ......", "c13c14p13p14");
        f.putRobot(one, 12, 1);
        f.putRobot(1 - one, 5, 0);
        f.write(one, 0);
        f.write(one, 0);
        f.write(1 - one, 0);
        f.step(2);
        f.putRobot(1 - one, 3, 2);
        f.step(1);
        return f;
    }

    private static int[] dueUnlike(int promise) {
        int[][] due = {{15, 0}, {1, 0}, {3, 1}, {1, 0}, {3, 1}, {0, 2}, {6, 0}, {0, 1}, {}, {2, 1}, {}, {1, 0}};
        return due[promise - 13];
    }

    private static void bothRobots(int promise, RobotCall call) {
        for (int one = 0; one < 2; one++) {
            BeltFloor f = unlike(one);
            Check.same("robot " + one, call.of(f, one), dueUnlike(promise)[0]);
            Check.same("robot " + (1 - one), call.of(f, 1 - one), dueUnlike(promise)[1]);
            int r = one;
            Whole.keeps("robot " + one, f2 -> call.of(f2, r), Whole.ALL);
        }
    }

    private static void cells() {
        for (int cell = 0; cell < 36; cell++) {
            BeltFloor f = new BeltFloor();
            Floors.putRobots(f, cell, 0, (cell + 7) % 36, 0);
            Check.same("cell of 0", f.cellOf(0), cell);
            Check.same("cell of 1", f.cellOf(1), (cell + 7) % 36);
        }
    }

    private static void cellsBehindSteps() {
        BeltFloor f = Floors.of("...... .ee... ...... ...... ...... ......", "r1070i00.");
        f.step(1);
        Check.same("moved", f.cellOf(0), 24);
        Check.same("carried", f.cellOf(1), 8);
        f.putRobot(1, 18, 0);
        f.step(1);
        Check.same("moved", f.cellOf(0), 18);
        Check.same("pushed", f.cellOf(1), 12);
        f.undo();
        Check.same("taken back", f.cellOf(1), 18);
    }

    private static void facings() {
        for (int facing = 0; facing < 4; facing++) {
            BeltFloor f = new BeltFloor();
            f.putRobot(0, 8, facing);
            f.putRobot(1, 18, 3 - facing);
            Check.same("facing of 0", f.facingOf(0), facing);
            Check.same("facing of 1", f.facingOf(1), 3 - facing);
        }
    }

    private static void facingsBehindSteps() {
        BeltFloor f = Floors.of(Floors.EMPTY + "i02.i13.");
        for (int step = 1; step <= 9; step++) {
            f.step(1);
            Check.same("turning left", f.facingOf(0), (4 * step - step) % 4);
            Check.same("turning right", f.facingOf(1), step % 4);
        }
    }

    private static void nextOnes() {
        BeltFloor f = Floors.of(Floors.EMPTY + "i00.p24p18p12p06");
        for (int passed = 0; passed < 4; passed++) {
            Check.same("next", f.nextOf(0), passed + 1);
            f.step(1);
        }
        Check.same("next of the other one", f.nextOf(1), 1);
        f.undo();
        Check.same("taken back", f.nextOf(0), 4);
    }

    private static void nextOnesNotThere() {
        BeltFloor f = Floors.of(Floors.EMPTY + "i00.");
        Check.same("without a checkpoint", f.nextOf(0), 1);
        f.addCheckpoint(24);
        f.step(1);
        Check.same("behind the only one", f.nextOf(0), 2);
        f.addCheckpoint(18);
        f.addCheckpoint(12);
        f.addCheckpoint(6);
        f.step(3);
        Check.same("behind the fourth one", f.nextOf(0), 5);
        f.step(40);
        Check.same("it stays", f.nextOf(0), 5);
    }

    private static void homes() {
        BeltFloor f = Floors.of(Floors.EMPTY + "i00.p24p18");
        Check.same("with none passed", f.isHome(0), false);
        f.step(1);
        Check.same("with one passed", f.isHome(0), false);
        f.step(1);
        Check.same("with both passed", f.isHome(0), true);
        Check.same("the other one", f.isHome(1), false);
        f.addCheckpoint(0);
        Check.same("with one more", f.isHome(0), false);
        f.undo();
        Check.same("without it", f.isHome(0), true);
        f.undo();
        Check.same("with one passed", f.isHome(0), false);
    }

    private static void homesWithoutCheckpoints() {
        BeltFloor f = new BeltFloor();
        Check.same("robot 0", f.isHome(0), false);
        Check.same("robot 1", f.isHome(1), false);
        f.step(40);
        Check.same("robot 0 behind steps", f.isHome(0), false);
        f.addCheckpoint(35);
        Check.same("robot 1 on it, before a step", f.isHome(1), false);
        f.step(1);
        Check.same("robot 1 behind a step", f.isHome(1), true);
        Check.same("robot 0", f.isHome(0), false);
    }

    private static void movesByItself() {
        BeltFloor f = Floors.of("...... .eo... ...... ...... ...... ......", "r1071i00.");
        f.step(1);
        Check.same("forward", f.movesOf(0), 1);
        Check.same("carried, and fallen", f.movesOf(1), 0);
        f.putRobot(1, 18, 0);
        Check.same("put", f.movesOf(1), 0);
        f.step(1);
        Check.same("pushing", f.movesOf(0), 2);
        Check.same("pushed", f.movesOf(1), 0);
        f.putRobot(0, 0, 0);
        f.step(1);
        Check.same("bumping", f.movesOf(0), 2);
        f.wipe(0);
        f.write(0, 1);
        f.step(1);
        Check.same("back", f.movesOf(0), 3);
        f.wipe(0);
        f.write(0, 3);
        f.write(0, 5);
        f.step(2);
        Check.same("turning and waiting", f.movesOf(0), 3);
    }

    private static void movesSoFar() {
        BeltFloor f = Floors.of(Floors.EMPTY + "r0320i001.r1021i155501.");
        soFar(f, BeltFloor::movesOf, 1, new int[] {0, 0, 0, 1, 1});
    }

    /** Counts of 60 steps: the robot 0's goes up by the same in each step, the robot 1's as in a round of five. */
    private static void soFar(BeltFloor f, RobotCall count, int each, int[] round) {
        int other = 0;
        for (int step = 1; step <= 60; step++) {
            f.step(1);
            other += round[(step - 1) % 5];
            Check.same("robot 0 behind " + step, count.of(f, 0), each * step);
            Check.same("robot 1 behind " + step, count.of(f, 1), other);
        }
        f.save(0);
        f.step(5);
        f.undo();
        Check.same("robot 0 behind undo", count.of(f, 0), each * 60);
        f.step(40);
        f.restore(0);
        Check.same("robot 1 behind restore", count.of(f, 1), other);
        f.load();
        Check.same("robot 0 behind load", count.of(f, 0), 0);
        Check.same("robot 1 behind load", count.of(f, 1), 0);
    }

    private static void bumps() {
        BeltFloor f = Floors.of("...... ...... ..#... ...... ...... ......", "r0131i00.r1000i10.");
        f.step(1);
        Check.same("before a block", f.bumpsOf(0), 1);
        Check.same("at the edge", f.bumpsOf(1), 1);
        f.putRobot(0, 3, 1);
        f.putRobot(1, 5, 3);
        f.step(1);
        Check.same("clashing", f.bumpsOf(0), 2);
        Check.same("clashing", f.bumpsOf(1), 2);
        f.wipe(1);
        f.step(1);
        Check.same("moving", f.bumpsOf(0), 2);
        Check.same("waiting", f.bumpsOf(1), 2);
        f.step(1);
        Check.same("with a row up to the edge", f.bumpsOf(0), 3);
        Check.same("in this row", f.bumpsOf(1), 2);
    }

    private static void bumpsSoFar() {
        soFar(Floors.of(Floors.EMPTY + "r0000i00.r1051i155500."), BeltFloor::bumpsOf, 1, new int[] {0, 0, 0, 1, 1});
    }

    private static void pushes() {
        BeltFloor f = Floors.of(Floors.EMPTY + "r0121c13c14i001.r1181c20i10.");
        f.step(1);
        Check.same("two crates", f.pushesOf(0), 2);
        Check.same("none yet", f.pushesOf(1), 0);
        f.step(1);
        Check.same("going back, it pulls none", f.pushesOf(0), 2);
        Check.same("one", f.pushesOf(1), 1);
        f.step(1);
        Check.same("up to the crates", f.pushesOf(0), 2);
        Check.same("one again", f.pushesOf(1), 2);
        f.putRobot(1, 1, 1);
        f.putRobot(0, 0, 1);
        f.wipe(1);
        f.wipe(0);
        f.write(0, 0);
        f.step(1);
        Check.same("the other robot", f.pushesOf(0), 3);
        Check.same("the pushed one", f.pushesOf(1), 2);
        f.putRobot(1, 5, 0);
        f.putRobot(0, 4, 1);
        f.step(1);
        Check.same("none, when it is blocked", f.pushesOf(0), 3);
    }

    private static void pushesSoFar() {
        // Belts bring one of the two crates back to it, again and again.
        BeltFloor f = Floors.of("...... ...... .ww... ...... ...... ......", "r0121c13c14i00.");
        for (int step = 1; step <= 20; step++) {
            f.step(1);
            Check.same("behind " + step, f.pushesOf(0), step + 1);
        }
        BeltFloor g = Floors.of(Floors.EMPTY + "r0121c13c14");
        g.write(0, 0);
        g.step(1);
        Check.same("two", g.pushesOf(0), 2);
        g.step(1);
        Check.same("the same two again", g.pushesOf(0), 4);
        g.step(1);
        Check.same("and again", g.pushesOf(0), 6);
        g.step(40);
        Check.same("not at the edge", g.pushesOf(0), 6);
        g.undo();
        g.undo();
        Check.same("taken back", g.pushesOf(0), 4);
    }

    private static void falls() {
        BeltFloor f = Floors.of("...... ...... .eo... ...... ...... ......", "r0131r1202i10.");
        f.step(1);
        Check.same("carried", f.fallsOf(0), 1);
        Check.same("beside it", f.fallsOf(1), 0);
        f.putRobot(1, 20, 0);
        f.step(1);
        Check.same("by itself", f.fallsOf(1), 1);
        Check.same("not again", f.fallsOf(0), 1);
    }

    private static void fallsSoFar() {
        // No other cell is free: each stays on its pit, and falls in each step.
        soFar(Floors.of("###### ###### ###### ###### o##### n####.", ""), BeltFloor::fallsOf, 1, new int[5]);
        soFar(Floors.of("###### ###### ###### ###### #####o .####n", ""), BeltFloor::fallsOf, 0,
                new int[] {1, 1, 1, 1, 1});
    }

    private static void steps() {
        BeltFloor f = new BeltFloor();
        Check.same("none", f.steps(), 0);
        f.step(1);
        Check.same("one", f.steps(), 1);
        f.step(40);
        Check.same("forty more", f.steps(), 41);
        f.addCrate(0);
        f.passesIn(0);
        f.loopByWaiting();
        f.loopByKeeping();
        f.simulate(1, 60);
        Check.same("what only would be", f.steps(), 41);
        f.undo();
        f.undo();
        Check.same("taken back", f.steps(), 1);
        f.save(0);
        f.step(7);
        f.restore(0);
        Check.same("restored", f.steps(), 1);
        Floors.type(f, Floors.EMPTY);
        f.load();
        Check.same("loaded", f.steps(), 0);
        Whole.keeps("steps", BeltFloor::steps, Whole.ALL);
    }

    // ---- programs

    private static void programs() {
        robot(22, "Returns the number of instructions of a program.", QuerySentences::lengths,
                "Returns how many.", QuerySentences::lengthsFrom0To10, BeltFloor::lengthOf);
        robot(24, "Returns the place of a robot in its program.", QuerySentences::places,
                "Returns the place; 0 without a program.", QuerySentences::placesWithoutAProgram, BeltFloor::placeOf);
        Doc.promise(23, "Returns an instruction of a program.", QuerySentences::instructions);
        Doc.promise(23, "`robot`: 0 or 1", QuerySentences::instructionsOfBoth);
        Doc.promise(23, "`place`: 0 for the first one", QuerySentences::firstInstructions);
        Doc.promise(23, "Returns the instruction, 0 to 5.", QuerySentences::eachInstruction);
        Doc.promise(23, "Throws `IndexOutOfBoundsException` if there is no such robot or place",
                QuerySentences::noSuchPlace);
    }

    private static void lengths() {
        BeltFloor f = Floors.of(Floors.EMPTY + "i0012.i15.");
        Check.same("length of 0", f.lengthOf(0), 3);
        Check.same("length of 1", f.lengthOf(1), 1);
        f.step(2);
        Check.same("steps leave it", f.lengthOf(0), 3);
        f.wipe(0);
        Check.same("wiped", f.lengthOf(0), 0);
        Check.same("the other one", f.lengthOf(1), 1);
        f.undo();
        Check.same("taken back", f.lengthOf(0), 3);
    }

    private static void lengthsFrom0To10() {
        for (int robot = 0; robot < 2; robot++) {
            BeltFloor f = new BeltFloor();
            for (int length = 0; length <= 10; length++) {
                Check.same("length", f.lengthOf(robot), length);
                Check.same("length of the other one", f.lengthOf(1 - robot), 0);
                if (length < 10) {
                    f.write(robot, 5);
                }
            }
        }
    }

    private static void places() {
        BeltFloor f = Floors.of(Floors.EMPTY + "i05555555555.i1555.");
        for (int step = 0; step < 23; step++) {
            Check.same("place of 0", f.placeOf(0), step % 10);
            Check.same("place of 1", f.placeOf(1), step % 3);
            f.step(1);
        }
        f.undo();
        Check.same("taken back", f.placeOf(0), 2);
    }

    private static void placesWithoutAProgram() {
        BeltFloor f = new BeltFloor();
        Check.same("of a new object", f.placeOf(0), 0);
        f.step(3);
        Check.same("behind steps", f.placeOf(1), 0);
        f.write(0, 5);
        f.write(0, 5);
        f.step(1);
        Check.same("with a program", f.placeOf(0), 1);
        f.wipe(0);
        Check.same("behind wipe", f.placeOf(0), 0);
        f.step(1);
        Check.same("behind wipe and a step", f.placeOf(0), 0);
    }

    private static void instructions() {
        BeltFloor f = Floors.of(Floors.EMPTY + "i03145.i120.");
        int[] due = {3, 1, 4, 5};
        for (int place = 0; place < due.length; place++) {
            Check.same("place " + place, f.instructionAt(0, place), due[place]);
        }
        f.step(3);
        Check.same("behind steps", f.instructionAt(0, 3), 5);
        Check.same("of the robot 1", f.instructionAt(1, 0), 2);
    }

    private static void instructionsOfBoth() {
        BeltFloor f = Floors.of(Floors.EMPTY + "i03.i14.");
        Check.same("robot 0", f.instructionAt(0, 0), 3);
        Check.same("robot 1", f.instructionAt(1, 0), 4);
        Whole.keeps("robot 0", g -> g.instructionAt(0, 0), Whole.ALL);
        Whole.keeps("robot 1", g -> g.instructionAt(1, 0), Whole.ALL);
    }

    private static void firstInstructions() {
        BeltFloor f = Floors.of(Floors.EMPTY + "i040.");
        Check.same("the first one", f.instructionAt(0, 0), 4);
        Check.same("the second one", f.instructionAt(0, 1), 0);
        BeltFloor g = Floors.of(Floors.EMPTY + "i05555555553.");
        Check.same("the tenth one", g.instructionAt(0, 9), 3);
        Check.noCell("an eleventh one", () -> g.instructionAt(0, 10));
    }

    private static void eachInstruction() {
        BeltFloor f = new BeltFloor();
        for (int instruction = 0; instruction <= 5; instruction++) {
            f.write(1, instruction);
            Check.same("instruction", f.instructionAt(1, instruction), instruction);
        }
    }

    private static void noSuchPlace() {
        for (int robot : Floors.WRONG_ROBOTS) {
            Whole.refusesIndex("robot " + robot, f -> f.instructionAt(robot, 0));
            Whole.refusesIndex("robot and place " + robot, f -> f.instructionAt(robot, -1));
        }
        for (int place : new int[] {-1, 10, 11, 16, Integer.MIN_VALUE, Integer.MAX_VALUE}) {
            Whole.refusesIndex("place " + place + " of 0", f -> f.instructionAt(0, place));
            Whole.refusesIndex("place " + place + " of 1", f -> f.instructionAt(1, place));
        }
        for (int length = 0; length <= 10; length++) {
            int behind = length;
            Whole.refuses("place " + behind + " of as many", f -> {
                for (int i = 0; i < behind; i++) {
                    f.write(1, 5);
                }
            }, f -> f.instructionAt(1, behind), "IndexOutOfBoundsException");
        }
        Whole.refuses("one that was wiped", f -> {
            f.write(0, 3);
            f.wipe(0);
        }, f -> f.instructionAt(0, 0), "IndexOutOfBoundsException");
    }
}
