import java.util.Random;
import java.util.Set;
import java.util.TreeSet;

/** The sentences of THE FLOOR, of promise 1, and of the constants. */
final class FloorSentences {
    private static final String ABOUT = "THE FLOOR";

    private FloorSentences() {
    }

    static void all() {
        Doc.promise(1, "Creates a floor without blocks, pits, belts, crates and checkpoints;", FloorSentences::emptyFloor);
        Doc.promise(1, "the programs are empty.", FloorSentences::emptyPrograms);
        Doc.says(ABOUT, "The floor has 6 rows of 6 cells; the cell in the row r and the column c (0 to 5 each) has the"
                + " number 6 * r + c.", FloorSentences::cells);
        Doc.says(ABOUT, "The directions are 0: north (to the row r - 1), 1: east (to the column c + 1), 2: south, 3: west.",
                FloorSentences::directions);
        Doc.says(ABOUT, "A cell is of a kind: 0: floor (at first), 1: a block, 2: a pit, 3 to 6: a belt to the north, to"
                + " the east, to the south, to the west.", FloorSentences::kinds);
        Doc.says(ABOUT, "There are 2 robots, numbered from 0, each on a cell, and facing a direction;",
                FloorSentences::twoRobots);
        Doc.says(ABOUT, "at first the robot 0 is on the cell 30, the robot 1 on the cell 35, both facing north.",
                FloorSentences::robotsAtFirst);
        Doc.says(ABOUT, "There are at most 8 crates, each on a cell.", FloorSentences::eightCrates);
        Doc.says(ABOUT, "There are at most 8 crates, each on a cell.", FloorSentences::eightCratesAgain);
        Doc.says(ABOUT, "Robots and crates are the things on the floor;", FloorSentences::things);
        Doc.says(ABOUT, "no two are on the same cell,", FloorSentences::noTwoOnACell);
        Doc.says(ABOUT, "and none is on a block.", FloorSentences::noneOnABlock);
        Doc.says(ABOUT, "no two are on the same cell, and none is on a block.", FloorSentences::longRuns);
        Doc.says(ABOUT, "There are at most 4 checkpoints,", FloorSentences::fourCheckpoints);
        Doc.says(ABOUT, "numbered from 1 in the order in which they were added,", FloorSentences::checkpointNumbers);
        Doc.says(ABOUT, "each on a cell of its own,", FloorSentences::checkpointCells);
        Doc.says(ABOUT, "which is no block and no pit.", FloorSentences::checkpointKinds);
    }

    private static void emptyFloor() {
        BeltFloor f = new BeltFloor();
        for (int cell = 0; cell < 36; cell++) {
            Check.same("kindOf " + cell, f.kindOf(cell), 0);
            Check.same("hasCrate " + cell, f.hasCrate(cell), false);
        }
        Check.same("cratesByCells", f.cratesByCells(), 0);
        Check.same("cratesByAccounts", f.cratesByAccounts(), 0);
        Check.same("lost", f.lost(), 0);
        Check.same("checkpoints", f.checkpoints(), 0);
        Check.same("steps", f.steps(), 0);
        Check.same("counts", Floors.counts(f), "0 0 0 0, 0 0 0 0");
        Check.same("another object shares nothing", Floors.picture(Whole.after(Whole.NEW)), Floors.picture(f));
        f.setKind(0, 4);
        f.addCrate(0);
        f.step(1);
        Check.same("a new one stays new", Floors.look(new BeltFloor()), "30n 35n");
    }

    private static void emptyPrograms() {
        BeltFloor f = new BeltFloor();
        for (int robot = 0; robot < 2; robot++) {
            int r = robot;
            Check.same("length", f.lengthOf(r), 0);
            Check.same("place", f.placeOf(r), 0);
            Check.noCell("instruction 0", () -> f.instructionAt(r, 0));
        }
    }

    /** A robot goes from each cell in each direction: it comes to the cell beside it, and never round the edge. */
    private static void cells() {
        for (int cell = 0; cell < 36; cell++) {
            for (int direction = 0; direction < 4; direction++) {
                BeltFloor f = new BeltFloor();
                Floors.putRobots(f, cell, direction, 6 * ((cell / 6 + 3) % 6) + (cell + 3) % 6, 0);
                f.write(0, 0);
                f.step(1);
                int ahead = Floors.beside(cell, direction);
                Check.same("from " + cell + " to the " + direction, f.cellOf(0), ahead < 0 ? cell : ahead);
                Check.same("bumps", f.bumpsOf(0), ahead < 0 ? 1 : 0);
            }
        }
    }

    /** A crate on a belt on each cell: it is carried to the cell beside it, and never round the edge. */
    private static void directions() {
        for (int cell = 0; cell < 36; cell++) {
            for (int direction = 0; direction < 4; direction++) {
                BeltFloor f = new BeltFloor();
                int row = (cell / 6 + 3) % 6;
                Floors.putRobots(f, 6 * row + (cell + 2) % 6, 0, 6 * row + (cell + 3) % 6, 0);
                f.setKind(cell, 3 + direction);
                f.addCrate(cell);
                f.step(1);
                int beside = Floors.beside(cell, direction);
                Check.same("from " + cell + " to the " + direction, f.hasCrate(beside < 0 ? cell : beside), true);
                Check.same("crates", f.cratesByCells(), 1);
                Check.same("still there", f.hasCrate(cell), beside < 0);
            }
        }
    }

    private static void kinds() {
        BeltFloor f = new BeltFloor();
        for (int cell = 0; cell < 36; cell++) {
            Check.same("at first", f.kindOf(cell), 0);
        }
        Check.same("floor", stepFromTheMiddle(0), "14e 21n c27");
        Check.same("a block", stepFromTheMiddle(1), "13e 21n c27");
        Check.same("a pit", stepFromTheMiddle(2), "0n 21n c27");
        Check.same("a belt to the north", stepFromTheMiddle(3), "8e 21n c27");
        Check.same("a belt to the east", stepFromTheMiddle(4), "15e 21n c27");
        Check.same("a belt to the south", stepFromTheMiddle(5), "20e 21n c27");
        Check.same("a belt to the west", stepFromTheMiddle(6), "13e 21n c27");
    }

    /** How it looks when the robot 0 has gone from the cell 13 to the cell 14, which is of a kind. */
    private static String stepFromTheMiddle(int kind) {
        BeltFloor f = Floors.of(Floors.EMPTY + "r0131i00.r1210c27");
        f.setKind(14, kind);
        f.step(1);
        return Floors.look(f);
    }

    private static void twoRobots() {
        BeltFloor f = new BeltFloor();
        f.putRobot(0, 8, 1);
        f.putRobot(1, 9, 2);
        Check.same("both", Floors.look(f), "8e 9s");
        Whole.refusesIndex("cellOf(2)", g -> g.cellOf(2));
        Whole.refusesIndex("cellOf(-1)", g -> g.cellOf(-1));
    }

    private static void robotsAtFirst() {
        Check.same("at first", Floors.look(new BeltFloor()), "30n 35n");
    }

    private static void eightCrates() {
        BeltFloor f = new BeltFloor();
        for (int n = 1; n <= 8; n++) {
            Check.same("crate " + n, f.addCrate(n), n);
        }
        Check.same("crates", f.cratesByCells(), 8);
        Whole.refusesState("a ninth one", Whole.FULL, g -> g.addCrate(35 - 3));
        BeltFloor g = new BeltFloor();
        Floors.type(g, Floors.EMPTY + "c00c01c02c03c04c05c06c07c08");
        Check.same("a ninth one in a text", g.load(), 1);
        Check.same("crates of the text", Floors.look(g), "30n 35n c0 c1 c2 c3 c4 c5 c6 c7");
    }

    /** Room for one more comes back when one is taken away, lost, or not yet there again. */
    private static void eightCratesAgain() {
        BeltFloor f = Floors.of("...... ...... ..eo.. ...... ...... ......", "c00c01c02c03c04c05c06c07");
        Check.badState("a ninth one", () -> f.addCrate(14));
        Check.same("one less", f.takeCrate(7), 7);
        Check.same("an eighth one", f.addCrate(14), 8);
        Check.badState("a ninth one", () -> f.addCrate(7));
        f.step(1);
        Check.same("one is lost", f.lost(), 1);
        Check.same("an eighth one", f.addCrate(7), 8);
        Check.badState("a ninth one", () -> f.addCrate(8));
        f.undo();
        Check.same("an eighth one", f.addCrate(8), 8);
    }

    /** Robots as well as crates are pushed, carried, and in the way. */
    private static void things() {
        BeltFloor f = Floors.of("...... .ee... ...... ...... ...... ......", "r1070c08r0131i00.c14");
        Check.badState("a crate on a robot", () -> f.addCrate(7));
        Check.badState("a crate on a crate", () -> f.addCrate(8));
        f.step(1);
        Check.same("carried and pushed", Floors.look(f), "14e 8n c9 c15");
    }

    private static void noTwoOnACell() {
        Whole.Script script = f -> f.addCrate(7);
        Whole.refusesState("a crate on the robot 0", script, f -> f.addCrate(30));
        Whole.refusesState("a crate on the robot 1", script, f -> f.addCrate(35));
        Whole.refusesState("a crate on a crate", script, f -> f.addCrate(7));
        Whole.refusesState("the robot 0 on the robot 1", script, f -> f.putRobot(0, 35, 0));
        Whole.refusesState("the robot 1 on the robot 0", script, f -> f.putRobot(1, 30, 0));
        Whole.refusesState("the robot 0 on a crate", script, f -> f.putRobot(0, 7, 0));
        Whole.refusesState("the robot 1 on a crate", script, f -> f.putRobot(1, 7, 0));
        BeltFloor f = Floors.of("...... .e.w.. ...... ...... ...... ......", "c07c09r0121c13i00.");
        f.step(1);
        Check.same("neither belts nor pushes lay two on a cell", Floors.look(f), "13e 35n c7 c9 c14");
    }

    private static void noneOnABlock() {
        Whole.Script script = f -> {
            f.setKind(1, 1);
            f.addCrate(7);
        };
        Whole.refusesState("a crate on a block", script, f -> f.addCrate(1));
        Whole.refusesState("the robot 0 on a block", script, f -> f.putRobot(0, 1, 0));
        Whole.refusesState("the robot 1 on a block", script, f -> f.putRobot(1, 1, 0));
        Whole.refusesState("a block under a crate", script, f -> f.setKind(7, 1));
        Whole.refusesState("a block under the robot 0", script, f -> f.setKind(30, 1));
        Whole.refusesState("a block under the robot 1", script, f -> f.setKind(35, 1));
        BeltFloor f = Floors.of("...... ..e#.. ..e#.. ...... ...... ......", "c08r0141i00.r1193i10.");
        f.setKind(18, 1);
        f.step(1);
        Check.same("neither belts nor steps lead onto a block", Floors.look(f), "14e 19w c8");
    }

    /** Random runs, each within the 512 calls: behind each call no two things share a cell, and none is on a block. */
    private static void longRuns() {
        for (int run = 0; run < 400; run++) {
            Random dice = new Random(run);
            BeltFloor f = new BeltFloor();
            for (int i = 0; i < 20; i++) {
                int cell = dice.nextInt(36);
                Check.outcome(() -> f.setKind(cell, dice.nextInt(7)));
                Check.outcome(() -> f.addCrate(dice.nextInt(36)));
                Check.outcome(() -> f.write(dice.nextInt(2), dice.nextInt(4)));
            }
            for (int i = 0; i < 8; i++) {
                f.step(1);
                thingsAreApart("run " + run + " step " + i, f);
            }
        }
    }

    private static void thingsAreApart(String what, BeltFloor f) {
        Set<Integer> cells = new TreeSet<>();
        for (int cell = 0; cell < 36; cell++) {
            if (f.hasCrate(cell)) {
                cells.add(cell);
            }
        }
        Check.same(what + " crates", cells.size(), f.cratesByAccounts());
        cells.add(f.cellOf(0));
        cells.add(f.cellOf(1));
        Check.same(what + " things on cells of their own", cells.size(), f.cratesByAccounts() + 2);
        boolean blocked = false;
        for (int cell : cells) {
            blocked |= f.kindOf(cell) == 1;
        }
        Check.same(what + " a thing on a block", blocked, false);
    }

    private static void fourCheckpoints() {
        BeltFloor f = new BeltFloor();
        for (int n = 1; n <= 4; n++) {
            Check.same("checkpoint " + n, f.addCheckpoint(6 + n), n);
        }
        Check.same("checkpoints", f.checkpoints(), 4);
        Whole.refusesState("a fifth one", Whole.FULL, g -> g.addCheckpoint(34));
        BeltFloor g = new BeltFloor();
        Floors.type(g, Floors.EMPTY + "p00p01p02p03p04");
        Check.same("a fifth one in a text", g.load(), 1);
        Check.same("checkpoints of the text", g.checkpoints(), 4);
        Check.same("the fourth one", g.cellOfCheckpoint(4), 3);
        Check.same("undo behind load", Check.outcome(g::undo), "throws IllegalStateException");
        f.undo();
        Check.same("a fourth one again", f.addCheckpoint(35), 4);
    }

    private static void checkpointNumbers() {
        BeltFloor f = new BeltFloor();
        int[] cells = {35, 0, 17, 4};
        for (int n = 1; n <= 4; n++) {
            Check.same("number", f.addCheckpoint(cells[n - 1]), n);
        }
        for (int n = 1; n <= 4; n++) {
            Check.same("cell of " + n, f.cellOfCheckpoint(n), cells[n - 1]);
        }
        Check.noCell("number 0", () -> f.cellOfCheckpoint(0));
        Check.noCell("number 5", () -> f.cellOfCheckpoint(5));
    }

    private static void checkpointCells() {
        Whole.Script script = f -> {
            f.addCheckpoint(0);
            f.addCheckpoint(7);
            f.addCheckpoint(35);
        };
        for (int cell : new int[] {0, 7, 35}) {
            Whole.refusesState("a second one on " + cell, script, f -> f.addCheckpoint(cell));
        }
        Check.same("on another cell", Whole.after(script).addCheckpoint(8), 4);
    }

    private static void checkpointKinds() {
        Whole.Script script = f -> {
            f.setKind(1, 1);
            f.setKind(2, 2);
            f.setKind(3, 3);
            f.addCheckpoint(7);
            f.addCheckpoint(35);
        };
        Whole.refusesState("on a block", script, f -> f.addCheckpoint(1));
        Whole.refusesState("on a pit", script, f -> f.addCheckpoint(2));
        Whole.refusesState("a block on a checkpoint", script, f -> f.setKind(7, 1));
        Whole.refusesState("a pit on a checkpoint", script, f -> f.setKind(7, 2));
        BeltFloor f = Whole.after(script);
        Check.same("on a belt", f.addCheckpoint(3), 3);
        Check.same("a belt on a checkpoint", f.setKind(7, 6), 0);
        Check.same("floor on a checkpoint", f.setKind(7, 0), 6);
        f.undo();
        f.undo();
        f.undo();
        f.undo();
        f.undo();
        Check.same("a pit where a checkpoint was", f.setKind(7, 2), 0);
    }
}
