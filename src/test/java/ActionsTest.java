import java.util.Collections;
import java.util.List;

/** Promises 25 to 31 and 33; the steps themselves are in StepTest. */
final class ActionsTest {
    private static final int[] WRONG_ROBOTS = {-1, 2, Integer.MIN_VALUE, Integer.MAX_VALUE};
    private static final int[] WRONG_CELLS = {-1, 36, 63, Integer.MIN_VALUE, Integer.MAX_VALUE};

    public static void main(String[] args) {
        setKind();
        setKindUnderThings();
        addCrate();
        takeCrate();
        addCheckpoint();
        putRobot();
        write();
        wipe();
        step();
        undoTakesBackEachAction();
        undoTakesBackEachCount();
        undoRemembersFourteen();
        undoAfterExceptions();
        actionsThatChangeNothing();
        Check.end();
    }

    private static void setKind() {
        BeltFloor f = new BeltFloor();
        int previous = 0;
        for (int kind = 6; kind >= 0; kind--) {
            Check.same("setKind " + kind, f.setKind(14, kind), previous);
            Check.same("kindOf", f.kindOf(14), kind);
            Check.same("kind of another cell", f.kindOf(15), 0);
            previous = kind;
        }
        for (int cell : WRONG_CELLS) {
            Check.noCell("setKind of " + cell, () -> f.setKind(cell, 1));
            Check.noCell("setKind of " + cell + " to a wrong kind", () -> f.setKind(cell, 7));
        }
        for (int kind : new int[] {-1, 7, Integer.MIN_VALUE, Integer.MAX_VALUE}) {
            Check.badArgument("setKind to " + kind, () -> f.setKind(14, kind));
            Check.badArgument("setKind under a robot to " + kind, () -> f.setKind(30, kind));
        }
        Check.same("setKind(0)", f.setKind(0, 1), 0);
        Check.same("setKind(35)", f.setKind(35, 6), 0);
    }

    private static void setKindUnderThings() {
        BeltFloor f = Floors.of(Floors.EMPTY + "c07p08p09");
        for (int cell : new int[] {7, 8, 9, 30, 35}) {
            Check.badState("a block on " + cell, () -> f.setKind(cell, 1));
            Check.badState("a pit on " + cell, () -> f.setKind(cell, 2));
            for (int kind = 3; kind < 7; kind++) {
                Check.same("a belt on " + cell, f.setKind(cell, kind), kind == 3 ? 0 : kind - 1);
            }
            Check.same("floor on " + cell, f.setKind(cell, 0), 6);
        }
        f.takeCrate(7);
        f.putRobot(0, 20, 0);
        Check.same("a block where a crate was", f.setKind(7, 1), 0);
        Check.same("a pit where a robot was", f.setKind(30, 2), 0);
        Check.same("a pit where a block was", f.setKind(7, 2), 1);
    }

    private static void addCrate() {
        BeltFloor f = Floors.of(".#on.. ...... ...... ...... ...... ......", "p04");
        for (int cell : WRONG_CELLS) {
            Check.noCell("addCrate " + cell, () -> f.addCrate(cell));
        }
        Check.badState("on a block", () -> f.addCrate(1));
        Check.badState("on a pit", () -> f.addCrate(2));
        Check.badState("on the robot 0", () -> f.addCrate(30));
        Check.badState("on the robot 1", () -> f.addCrate(35));
        Check.same("on a belt", f.addCrate(3), 1);
        Check.same("on a checkpoint", f.addCrate(4), 2);
        Check.badState("on a crate", () -> f.addCrate(3));
        for (int n = 3; n <= 8; n++) {
            Check.same("crate " + n, f.addCrate(10 + n), n);
        }
        Check.badState("a ninth one", () -> f.addCrate(34));
        Check.same("crates", f.cratesByCells(), 8);
        Check.same("no crate there", f.hasCrate(34), false);
        f.takeCrate(11 + 2);
        Check.same("an eighth one again", f.addCrate(34), 8);
    }

    private static void takeCrate() {
        BeltFloor f = Floors.of(Floors.EMPTY + "c07c08");
        for (int cell : WRONG_CELLS) {
            Check.noCell("takeCrate " + cell, () -> f.takeCrate(cell));
        }
        Check.badState("from an empty cell", () -> f.takeCrate(6));
        Check.badState("a robot", () -> f.takeCrate(30));
        Check.same("takeCrate", f.takeCrate(7), 1);
        Check.same("it is gone", f.hasCrate(7), false);
        Check.same("the other one stays", f.hasCrate(8), true);
        Check.badState("again", () -> f.takeCrate(7));
        Check.same("lost", f.lost(), 0);
        Check.same("takeCrate", f.takeCrate(8), 0);
        Check.same("accounts", f.cratesByAccounts(), 0);
    }

    private static void addCheckpoint() {
        BeltFloor f = Floors.of(".#os.. ...... ...... ...... ...... ......", "c04");
        for (int cell : WRONG_CELLS) {
            Check.noCell("addCheckpoint " + cell, () -> f.addCheckpoint(cell));
        }
        Check.badState("on a block", () -> f.addCheckpoint(1));
        Check.badState("on a pit", () -> f.addCheckpoint(2));
        Check.same("on a belt", f.addCheckpoint(3), 1);
        Check.same("under a crate", f.addCheckpoint(4), 2);
        Check.badState("on a checkpoint", () -> f.addCheckpoint(3));
        Check.same("under a robot", f.addCheckpoint(30), 3);
        Check.same("it is not passed yet", f.nextOf(0), 1);
        Check.same("a fourth one", f.addCheckpoint(0), 4);
        Check.badState("a fifth one", () -> f.addCheckpoint(5));
        Check.same("checkpoints", f.checkpoints(), 4);

        BeltFloor g = new BeltFloor();
        g.addCheckpoint(30);
        Check.same("not passed before a step", g.nextOf(0), 1);
        Check.same("not home before a step", g.isHome(0), false);
        Check.same("passed in a step", g.step(1), 1);
        Check.same("home", g.isHome(0), true);
    }

    private static void putRobot() {
        BeltFloor f = Floors.of(".#ow.. ...... ...... ...... ...... ......", "c04p05i003.");
        f.step(1);
        for (int robot : WRONG_ROBOTS) {
            Check.noCell("putRobot " + robot, () -> f.putRobot(robot, 0, 0));
        }
        for (int cell : WRONG_CELLS) {
            Check.noCell("putRobot onto " + cell, () -> f.putRobot(0, cell, 0));
            Check.noCell("putRobot onto " + cell + " in no direction", () -> f.putRobot(0, cell, 4));
        }
        for (int facing : new int[] {-1, 4, Integer.MIN_VALUE, Integer.MAX_VALUE}) {
            Check.badArgument("facing " + facing, () -> f.putRobot(0, 0, facing));
            Check.badArgument("onto a block, facing " + facing, () -> f.putRobot(0, 1, facing));
        }
        Check.badState("onto a block", () -> f.putRobot(0, 1, 0));
        Check.badState("onto a pit", () -> f.putRobot(0, 2, 0));
        Check.badState("onto a crate", () -> f.putRobot(0, 4, 0));
        Check.badState("onto the robot 1", () -> f.putRobot(0, 35, 0));
        Check.badState("onto the robot 0", () -> f.putRobot(1, 24, 0));
        Check.same("onto a belt", f.putRobot(0, 3, 2), 24);
        Check.same("cell", f.cellOf(0), 3);
        Check.same("facing", f.facingOf(0), 2);
        Check.same("it is not carried before a step", f.cellOf(0), 3);
        Check.same("onto its own cell", f.putRobot(0, 3, 1), 3);
        Check.same("facing", f.facingOf(0), 1);
        Check.same("onto the cell that is free now", f.putRobot(1, 24, 3), 35);
        Check.same("onto a checkpoint", f.putRobot(1, 5, 3), 24);
        Check.same("it is not passed before a step", f.nextOf(1), 1);
        Check.same("the program goes on", f.placeOf(0), 1);
        Check.same("moves", f.movesOf(0), 1);
        Check.same("moves by being put", f.movesOf(1), 0);
    }

    private static void write() {
        BeltFloor f = new BeltFloor();
        for (int robot : WRONG_ROBOTS) {
            Check.noCell("write " + robot, () -> f.write(robot, 0));
            Check.noCell("write a wrong one to " + robot, () -> f.write(robot, 6));
        }
        for (int instruction : new int[] {-1, 6, Integer.MIN_VALUE, Integer.MAX_VALUE}) {
            Check.badArgument("write " + instruction, () -> f.write(0, instruction));
        }
        for (int n = 1; n <= 10; n++) {
            Check.same("write", f.write(0, n % 6), n);
        }
        Check.badState("an eleventh one", () -> f.write(0, 0));
        Check.badArgument("a wrong eleventh one", () -> f.write(0, 6));
        Check.same("length", f.lengthOf(0), 10);
        Check.same("the other one's length", f.lengthOf(1), 0);
        Check.same("write to the other one", f.write(1, 5), 1);

        BeltFloor g = Floors.of(Floors.EMPTY + "i155.");
        g.step(1);
        g.write(1, 4);
        Check.same("the place stays", g.placeOf(1), 1);
        g.step(1);
        Check.same("the new one is next", g.placeOf(1), 2);
        g.step(1);
        Check.same("the new one was followed", g.facingOf(1), 2);
        Check.same("the first one comes again", g.placeOf(1), 0);
        g.write(1, 0);
        Check.same("behind the last one it was the first one's turn", g.placeOf(1), 0);
    }

    private static void wipe() {
        BeltFloor f = Floors.of(Floors.EMPTY + "i0432.i155.");
        f.step(2);
        for (int robot : WRONG_ROBOTS) {
            Check.noCell("wipe " + robot, () -> f.wipe(robot));
        }
        Check.same("wipe", f.wipe(0), 3);
        Check.same("length", f.lengthOf(0), 0);
        Check.same("place", f.placeOf(0), 0);
        Check.same("the other one's length", f.lengthOf(1), 2);
        Check.same("wipe again", f.wipe(0), 0);
        int facing = f.facingOf(0);
        f.step(3);
        Check.same("it waits", f.facingOf(0), facing);
        Check.same("place without a program", f.placeOf(0), 0);
        Check.same("the other one's place", f.placeOf(1), 1);
        Check.same("write", f.write(0, 4), 1);
    }

    private static void step() {
        BeltFloor f = new BeltFloor();
        for (int n : new int[] {0, 41, -1, Integer.MIN_VALUE, Integer.MAX_VALUE}) {
            Check.badArgument("step " + n, () -> f.step(n));
        }
        Check.same("steps", f.steps(), 0);
        Check.same("step(1)", f.step(1), 0);
        Check.same("step(40)", f.step(40), 0);
        Check.same("steps", f.steps(), 41);
    }

    private static void undoTakesBackEachAction() {
        undoTakesBack(f -> {
            Floors.type(f, "F..eo................................i000.c02p24p18r0300");
            f.load();
        }, List.of(f -> f.setKind(9, 5), f -> f.addCrate(24), f -> f.step(1), f -> f.takeCrate(18),
                f -> f.addCheckpoint(1), f -> f.putRobot(1, 33, 3), f -> f.write(1, 0), f -> f.step(2), f -> f.wipe(0)));
    }

    /** The robot 0 pushes a crate into a pit, and bumps; the robot 1 falls again and again. */
    private static void undoTakesBackEachCount() {
        undoTakesBack(f -> {
            Floors.type(f, "F...............o....................r0121c13c14i00.r1002i110.");
            f.load();
            f.setKind(6, 2);
        }, Collections.nCopies(12, f -> f.step(1)));
    }

    /** Behind undo of the last ones, all is as it was when only the others had been made. */
    private static void undoTakesBack(Whole.Script start, List<Whole.Call> actions) {
        for (int made = 0; made <= actions.size(); made++) {
            BeltFloor due = Whole.after(start);
            for (Whole.Call action : actions.subList(0, made)) {
                action.on(due);
            }
            BeltFloor f = Whole.after(start);
            for (Whole.Call action : actions) {
                action.on(f);
            }
            for (int undone = made; undone < actions.size(); undone++) {
                f.undo();
            }
            Check.same("as behind " + made + " actions", Floors.picture(f), Floors.picture(due));
        }
    }

    private static void undoRemembersFourteen() {
        BeltFloor f = new BeltFloor();
        for (int n = 1; n <= 40; n++) {
            f.step(1);
        }
        for (int left = 13; left >= 0; left--) {
            Check.same("undo", f.undo(), left);
            Check.same("steps", f.steps(), 26 + left);
        }
        Check.badState("undo of what is forgotten", () -> f.undo());
        Check.same("steps", f.steps(), 26);
        for (int n = 1; n <= 14; n++) {
            f.step(2);
        }
        Check.same("undo", f.undo(), 13);
        f.step(40);
        Check.same("undo", f.undo(), 13);
        Check.same("steps", f.steps(), 52);
        Check.same("undo", f.undo(), 12);
        Check.same("steps", f.steps(), 50);
    }

    private static void undoAfterExceptions() {
        BeltFloor f = new BeltFloor();
        f.addCrate(0);
        Check.noCell("setKind", () -> f.setKind(36, 0));
        Check.badArgument("setKind", () -> f.setKind(0, 7));
        Check.badState("setKind", () -> f.setKind(0, 1));
        Check.badState("addCrate", () -> f.addCrate(0));
        Check.badState("takeCrate", () -> f.takeCrate(1));
        Check.noCell("addCheckpoint", () -> f.addCheckpoint(36));
        Check.badState("putRobot", () -> f.putRobot(0, 0, 0));
        Check.badArgument("write", () -> f.write(0, 6));
        Check.noCell("wipe", () -> f.wipe(2));
        Check.badArgument("step", () -> f.step(0));
        f.kindOf(0);
        f.loopByKeeping();
        f.simulate(7, 20);
        f.save(1);
        f.append('F');
        f.errorPosition();
        f.clearText();
        Check.same("undo", f.undo(), 0);
        Check.same("the crate is gone", f.hasCrate(0), false);
    }

    private static void actionsThatChangeNothing() {
        BeltFloor f = new BeltFloor();
        f.setKind(3, 0);
        f.putRobot(0, 30, 0);
        f.wipe(0);
        Check.same("undo of wipe", f.undo(), 2);
        Check.same("undo of putRobot", f.undo(), 1);
        Check.same("undo of setKind", f.undo(), 0);
        Floors.type(f, "F");
        f.addCrate(1);
        Check.same("undo", f.undo(), 0);
        Check.same("the text is not taken back", f.clearText(), 1);
    }
}
