import java.util.List;

/** The sentences of EXCEPTIONS, and the constants. */
final class ExceptionSentences {
    private static final String ABOUT = "EXCEPTIONS";
    private static final String INDEX = "IndexOutOfBoundsException";
    private static final String ARGUMENT = "IllegalArgumentException";
    private static final String STATE = "IllegalStateException";

    private ExceptionSentences() {
    }

    static void all() {
        Doc.says("constants", "The constants: `NONE = -1`: There is no such result.", ExceptionSentences::none);
        Doc.says(ABOUT, "IndexOutOfBoundsException means that a cell,", ExceptionSentences::cells);
        Doc.says(ABOUT, "a robot,", ExceptionSentences::robots);
        Doc.says(ABOUT, "a checkpoint or a place does not exist,", ExceptionSentences::checkpointsAndPlaces);
        Doc.says(ABOUT, "or that a save slot is not 0 or 1.", ExceptionSentences::slots);
        Doc.says(ABOUT, "IllegalArgumentException means that another argument is out of its range.",
                ExceptionSentences::otherArguments);
        Doc.says(ABOUT, "IllegalStateException means what the method says.", ExceptionSentences::states);
        Doc.says(ABOUT, "If several exceptions apply to a call, the one that its description names first is thrown.",
                ExceptionSentences::theFirstOne);
        Doc.says(ABOUT, "A call that throws an exception changes nothing.", ExceptionSentences::changesNothing);
        Doc.says(ABOUT, "A call that throws an exception changes nothing.", ExceptionSentences::manyRefusedCalls);
    }

    private static void none() {
        BeltFloor f = Floors.of("...... ...... ...... ...... #..... ......", "");
        Check.same("NONE", BeltFloor.NONE, -1);
        Check.same("rowAhead", f.rowAhead(0), BeltFloor.NONE);
        Check.same("passesIn", f.passesIn(0), BeltFloor.NONE);
        Check.same("fewestBySpreading", f.fewestBySpreading(0, 24), BeltFloor.NONE);
        Check.same("fewestBySweeping", f.fewestBySweeping(0, 24), BeltFloor.NONE);
        Check.same("errorPosition", f.errorPosition(), BeltFloor.NONE);
        BeltFloor g = Floors.of(Floors.EMPTY + "i03555555555.i1555555555.");
        Check.same("loopByWaiting", g.loopByWaiting(), BeltFloor.NONE);
        Check.same("loopByKeeping", g.loopByKeeping(), BeltFloor.NONE);
    }

    private static void cells() {
        for (int cell : new int[] {-1, 36}) {
            List<Whole.Call> calls = List.of(f -> f.kindOf(cell), f -> f.hasCrate(cell) ? 1 : 0, f -> f.setKind(cell, 0),
                    f -> f.addCrate(cell), f -> f.takeCrate(cell), f -> f.addCheckpoint(cell),
                    f -> f.putRobot(0, cell, 0), f -> f.fewestBySpreading(0, cell), f -> f.fewestBySweeping(0, cell));
            for (Whole.Call call : calls) {
                Check.throwing("call " + calls.indexOf(call), () -> call.on(new BeltFloor()), INDEX);
            }
        }
        for (int cell : new int[] {0, 33}) {
            List<Whole.Call> calls = List.of(f -> f.kindOf(cell), f -> f.hasCrate(cell) ? 1 : 0, f -> f.setKind(cell, 0),
                    f -> f.addCrate(cell), f -> f.addCheckpoint(cell), f -> f.putRobot(0, cell, 0),
                    f -> f.fewestBySpreading(0, cell), f -> f.fewestBySweeping(0, cell));
            for (Whole.Call call : calls) {
                String outcome = Check.outcome(() -> call.on(new BeltFloor()));
                Check.same("call " + calls.indexOf(call), outcome.startsWith("answers"), true);
            }
        }
    }

    private static void robots() {
        for (int robot : new int[] {-1, 2}) {
            List<Whole.Call> calls = List.of(f -> f.cellOf(robot), f -> f.facingOf(robot), f -> f.nextOf(robot),
                    f -> f.isHome(robot) ? 1 : 0, f -> f.movesOf(robot), f -> f.bumpsOf(robot), f -> f.pushesOf(robot),
                    f -> f.fallsOf(robot), f -> f.lengthOf(robot), f -> f.instructionAt(robot, 0), f -> f.placeOf(robot),
                    f -> f.putRobot(robot, 0, 0), f -> f.write(robot, 0), f -> f.wipe(robot), f -> f.rowAhead(robot),
                    f -> f.passesIn(robot), f -> f.fewestBySpreading(robot, 0), f -> f.fewestBySweeping(robot, 0));
            for (Whole.Call call : calls) {
                Check.throwing("call " + calls.indexOf(call), () -> call.on(new BeltFloor()), INDEX);
            }
        }
    }

    private static void checkpointsAndPlaces() {
        BeltFloor f = Floors.of(Floors.EMPTY + "p07i005.");
        Check.noCell("checkpoint 0", () -> f.cellOfCheckpoint(0));
        Check.same("checkpoint 1", f.cellOfCheckpoint(1), 7);
        Check.noCell("checkpoint 2", () -> f.cellOfCheckpoint(2));
        Check.noCell("place -1", () -> f.instructionAt(0, -1));
        Check.same("place 0", f.instructionAt(0, 0), 0);
        Check.same("place 1", f.instructionAt(0, 1), 5);
        Check.noCell("place 2", () -> f.instructionAt(0, 2));
        Check.noCell("place 0 of the other one", () -> f.instructionAt(1, 0));
    }

    private static void slots() {
        BeltFloor f = new BeltFloor();
        for (int slot : new int[] {-1, 2}) {
            Check.noCell("save " + slot, () -> f.save(slot));
            Check.noCell("restore " + slot, () -> f.restore(slot));
        }
        Check.same("save 0", f.save(0), 0);
        Check.same("save 1", f.save(1), 0);
    }

    private static void otherArguments() {
        BeltFloor f = new BeltFloor();
        for (int i = 0; i < 2; i++) {
            int c = i == 0 ? -1 : 256;
            Check.badArgument("append " + c, () -> f.append(c));
            int kind = i == 0 ? -1 : 7;
            Check.badArgument("setKind to " + kind, () -> f.setKind(0, kind));
            int facing = i == 0 ? -1 : 4;
            Check.badArgument("putRobot facing " + facing, () -> f.putRobot(0, 0, facing));
            int instruction = i == 0 ? -1 : 6;
            Check.badArgument("write " + instruction, () -> f.write(0, instruction));
            int n = i == 0 ? 0 : 41;
            Check.badArgument("step " + n, () -> f.step(n));
            int m = i == 0 ? 0 : 61;
            Check.badArgument("simulate " + m, () -> f.simulate(0L, m));
        }
    }

    private static void states() {
        BeltFloor f = new BeltFloor();
        Check.badState("undo", f::undo);
        Check.badState("load", f::load);
        Check.badState("restore", () -> f.restore(0));
        Check.badState("takeCrate", () -> f.takeCrate(0));
        Check.badState("addCrate", () -> f.addCrate(30));
        Check.badState("putRobot", () -> f.putRobot(0, 35, 0));
        Check.badState("setKind", () -> f.setKind(30, 1));
        BeltFloor g = Whole.after(Whole.FULL);
        Check.badState("append", () -> g.append('F'));
        Check.badState("addCheckpoint", () -> g.addCheckpoint(33));
        Check.badState("write", () -> g.write(0, 0));
    }

    /** FULL has 8 crates, 4 checkpoints, full programs and a full text; a block is on the cell 6, a crate on 13. */
    private static void theFirstOne() {
        Whole.refuses("append: range, then full", Whole.FULL, f -> f.append(256), ARGUMENT);
        Whole.refuses("append: range, then full", Whole.FULL, f -> f.append(-1), ARGUMENT);
        Whole.refuses("setKind: cell, then kind", f -> f.setKind(36, 7), INDEX);
        Whole.refuses("setKind: cell, then kind", f -> f.setKind(-1, -1), INDEX);
        Whole.refuses("setKind: kind, whatever is there", Whole.FULL, f -> f.setKind(13, 7), ARGUMENT);
        Whole.refuses("setKind: kind, whatever is there", Whole.FULL, f -> f.setKind(30, -1), ARGUMENT);
        Whole.refuses("addCrate: cell, then 8 crates", Whole.FULL, f -> f.addCrate(36), INDEX);
        Whole.refuses("takeCrate: cell, then no crate", Whole.NEW, f -> f.takeCrate(36), INDEX);
        Whole.refuses("addCheckpoint: cell, then 4", Whole.FULL, f -> f.addCheckpoint(-1), INDEX);
        Whole.refuses("putRobot: robot, then facing", f -> f.putRobot(2, 0, 4), INDEX);
        Whole.refuses("putRobot: cell, then facing", f -> f.putRobot(0, 36, -1), INDEX);
        Whole.refuses("putRobot: robot, then a block", Whole.FULL, f -> f.putRobot(-1, 6, 0), INDEX);
        Whole.refuses("putRobot: robot, facing, a block", Whole.FULL, f -> f.putRobot(2, 6, 4), INDEX);
        Whole.refuses("putRobot: facing, then a block", Whole.FULL, f -> f.putRobot(0, 6, 4), ARGUMENT);
        Whole.refuses("putRobot: facing, then a pit", Whole.FULL, f -> f.putRobot(0, 12, -1), ARGUMENT);
        Whole.refuses("putRobot: facing, then a crate", Whole.FULL, f -> f.putRobot(1, 13, 4), ARGUMENT);
        Whole.refuses("putRobot: facing, then the other robot", Whole.NEW, f -> f.putRobot(1, 30, 4), ARGUMENT);
        Whole.refuses("write: robot, then instruction", f -> f.write(2, 6), INDEX);
        Whole.refuses("write: robot, instruction, 10", Whole.FULL, f -> f.write(-1, -1), INDEX);
        Whole.refuses("write: robot, then 10", Whole.FULL, f -> f.write(2, 0), INDEX);
        Whole.refuses("write: instruction, then 10", Whole.FULL, f -> f.write(0, 6), ARGUMENT);
        Whole.refuses("write: instruction, then 10", Whole.FULL, f -> f.write(1, -1), ARGUMENT);
        Whole.refuses("restore: slot, then nothing saved", Whole.NEW, f -> f.restore(2), INDEX);
        Whole.refuses("restore: slot, then nothing saved", Whole.NEW, f -> f.restore(-1), INDEX);
    }

    /** One refused call of each method that refuses, for each reason, at its ordinary place. */
    private static void changesNothing() {
        List<Whole.Call> index = List.of(f -> f.kindOf(36), f -> f.hasCrate(36) ? 1 : 0, f -> f.cellOfCheckpoint(5),
                f -> f.cellOf(2), f -> f.facingOf(2), f -> f.nextOf(2), f -> f.isHome(2) ? 1 : 0, f -> f.movesOf(2),
                f -> f.bumpsOf(2), f -> f.pushesOf(2), f -> f.fallsOf(2), f -> f.lengthOf(2), f -> f.instructionAt(0, 10),
                f -> f.placeOf(2), f -> f.setKind(36, 3), f -> f.addCrate(36), f -> f.takeCrate(36),
                f -> f.addCheckpoint(36), f -> f.putRobot(0, 36, 1), f -> f.write(2, 1), f -> f.wipe(2),
                f -> f.rowAhead(2), f -> f.passesIn(2), f -> f.fewestBySpreading(0, 36), f -> f.fewestBySweeping(0, 36),
                f -> f.save(2), f -> f.restore(2));
        for (Whole.Call call : index) {
            Whole.refuses("index " + index.indexOf(call), call, INDEX);
        }
        List<Whole.Call> argument = List.of(f -> f.append(256), f -> f.setKind(33, 7), f -> f.putRobot(0, 33, 4),
                f -> f.write(0, 6), f -> f.step(41), f -> f.simulate(1L, 61));
        for (Whole.Call call : argument) {
            Whole.refuses("argument " + argument.indexOf(call), call, ARGUMENT);
        }
        List<Whole.Call> state = List.of(f -> f.append('F'), f -> f.setKind(13, 1), f -> f.setKind(28, 2),
                f -> f.addCrate(33), f -> f.takeCrate(33), f -> f.addCheckpoint(33), f -> f.putRobot(0, 6, 1),
                f -> f.putRobot(1, 13, 1), f -> f.write(0, 1));
        for (Whole.Call call : state) {
            Whole.refuses("state " + state.indexOf(call), Whole.FULL, call, STATE);
        }
        List<Whole.Call> ofANewOne = List.of(BeltFloor::load, BeltFloor::undo, f -> f.restore(0), f -> f.restore(1));
        for (Whole.Call call : ofANewOne) {
            Whole.refuses("state of a new object " + ofANewOne.indexOf(call), Whole.NEW, call, STATE);
        }
    }

    /** As many refused calls as there are states to remember, and more, push none of these out. */
    private static void manyRefusedCalls() {
        Whole.Script start = f -> {
            for (int i = 0; i < 14; i++) {
                f.step(1);
            }
            f.save(0);
        };
        Whole.keeps("forty refused calls", start, f -> {
            for (int i = 0; i < 5; i++) {
                Check.outcome(() -> f.setKind(30, 1));
                Check.outcome(() -> f.addCrate(35));
                Check.outcome(() -> f.takeCrate(0));
                Check.outcome(() -> f.addCheckpoint(36));
                Check.outcome(() -> f.putRobot(0, 35, 0));
                Check.outcome(() -> f.write(0, 6));
                Check.outcome(() -> f.wipe(2));
                Check.outcome(() -> f.step(0));
            }
            return 0;
        }, Whole.ALL);
    }
}
