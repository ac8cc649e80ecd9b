/** The sentences of the promises 25 to 30. */
final class ChangeSentences {
    private static final String NO_CELL = "Throws `IndexOutOfBoundsException` if there is no such cell";

    /** A block on the cell 1, a pit on 2, a belt on 3, a crate on 7, checkpoints on 8 and 9. */
    private static final Whole.Script MIXED = f -> {
        f.setKind(1, 1);
        f.setKind(2, 2);
        f.setKind(3, 3);
        f.addCrate(7);
        f.addCheckpoint(8);
        f.addCheckpoint(9);
    };

    private ChangeSentences() {
    }

    static void all() {
        Doc.promise(25, "Changes the kind of a cell.", ChangeSentences::changesKinds);
        Doc.promise(25, "`cell`: 0 to 35", ChangeSentences::kindsOfEachCell);
        Doc.promise(25, "`kind`: 0 to 6", ChangeSentences::eachKind);
        Doc.promise(25, "Returns the previous kind.", ChangeSentences::previousKind);
        Doc.promise(25, NO_CELL, ChangeSentences::kindOfNoCell);
        Doc.promise(25, "Throws `IllegalArgumentException` if kind is out of range", ChangeSentences::noSuchKind);
        Doc.promise(25, "Throws `IllegalStateException` if kind is a block or a pit, and a thing",
                ChangeSentences::kindUnderAThing);
        Doc.promise(25, "or a checkpoint is on the cell", ChangeSentences::kindUnderACheckpoint);

        Doc.promise(26, "Adds a crate.", ChangeSentences::addsACrate);
        Doc.promise(26, "`cell`: 0 to 35", ChangeSentences::crateOnEachCell);
        Doc.promise(26, "Returns how many there are then.", ChangeSentences::howManyWithIt);
        Doc.promise(26, NO_CELL, ChangeSentences::crateOnNoCell);
        Doc.promise(26, "Throws `IllegalStateException` if the cell is a block or a pit,",
                ChangeSentences::crateOnABlockOrAPit);
        Doc.promise(26, "or a thing is there,", ChangeSentences::crateOnAThing);
        Doc.promise(26, "or there are 8 crates", ChangeSentences::aNinthCrate);

        Doc.promise(27, "Takes a crate away;", ChangeSentences::takesACrate);
        Doc.promise(27, "it is not lost.", ChangeSentences::isNotLost);
        Doc.promise(27, "`cell`: 0 to 35", ChangeSentences::crateFromEachCell);
        Doc.promise(27, "Returns how many there are then.", ChangeSentences::howManyWithoutIt);
        Doc.promise(27, NO_CELL, ChangeSentences::crateFromNoCell);
        Doc.promise(27, "Throws `IllegalStateException` if no crate is there", ChangeSentences::noCrateThere);

        Doc.promise(28, "Adds a checkpoint.", ChangeSentences::addsACheckpoint);
        Doc.promise(28, "(A robot that is there passes it in a step at the earliest.)", ChangeSentences::atTheEarliest);
        Doc.promise(28, "`cell`: 0 to 35", ChangeSentences::checkpointOnEachCell);
        Doc.promise(28, "Returns its number.", ChangeSentences::itsNumber);
        Doc.promise(28, NO_CELL, ChangeSentences::checkpointOnNoCell);
        Doc.promise(28, "Throws `IllegalStateException` if the cell is a block or a pit,",
                ChangeSentences::checkpointOnABlockOrAPit);
        Doc.promise(28, "or a checkpoint is there,", ChangeSentences::checkpointOnACheckpoint);
        Doc.promise(28, "or there are 4", ChangeSentences::aFifthCheckpoint);

        Doc.promise(29, "Puts a robot onto a cell.", ChangeSentences::putsARobot);
        Doc.promise(29, "`robot`: 0 or 1", ChangeSentences::putsBoth);
        Doc.promise(29, "`cell`: 0 to 35", ChangeSentences::ontoEachCell);
        Doc.promise(29, "`facing`: 0 to 3: the direction that it faces then", ChangeSentences::eachFacing);
        Doc.promise(29, "Returns the cell where it was.", ChangeSentences::whereItWas);
        Doc.promise(29, "Throws `IndexOutOfBoundsException` if there is no such robot or cell",
                ChangeSentences::noSuchRobotOrCell);
        Doc.promise(29, "Throws `IllegalArgumentException` if facing is out of range", ChangeSentences::noSuchFacing);
        Doc.promise(29, "Throws `IllegalStateException` if the cell is a block or a pit,",
                ChangeSentences::robotOnABlockOrAPit);
        Doc.promise(29, "or another thing is there", ChangeSentences::robotOnAnotherThing);

        Doc.promise(30, "Adds an instruction at the end of a program.", ChangeSentences::writes);
        Doc.promise(30, "`robot`: 0 or 1", ChangeSentences::writesForBoth);
        Doc.promise(30, "`instruction`: 0 to 5", ChangeSentences::eachInstruction);
        Doc.promise(30, "Returns how many instructions it has then.", ChangeSentences::howManyInstructions);
        Doc.promise(30, "Throws `IndexOutOfBoundsException` if there is no such robot", ChangeSentences::writesForNoOther);
        Doc.promise(30, "Throws `IllegalArgumentException` if instruction is out of range",
                ChangeSentences::noSuchInstruction);
        Doc.promise(30, "Throws `IllegalStateException` if it has 10", ChangeSentences::anEleventhInstruction);
    }

    // ---- setKind

    private static void changesKinds() {
        BeltFloor f = new BeltFloor();
        f.setKind(14, 4);
        f.setKind(15, 2);
        for (int cell = 0; cell < 36; cell++) {
            Check.same("kind of " + cell, f.kindOf(cell), cell == 14 ? 4 : cell == 15 ? 2 : 0);
        }
        // What the cell does changes with it: a crate is carried, lost, or stays.
        f.addCrate(14);
        f.step(1);
        Check.same("belt and pit", f.lost(), 1);
        f.setKind(15, 0);
        f.addCrate(14);
        f.step(1);
        Check.same("belt and floor", Floors.look(f), "30n 35n c15");
        f.setKind(15, 6);
        f.setKind(14, 0);
        f.step(1);
        Check.same("the belt has been turned round", Floors.look(f), "30n 35n c14");
        f.step(1);
        Check.same("the first one is floor again", Floors.look(f), "30n 35n c14");
    }

    private static void kindsOfEachCell() {
        for (int cell = 0; cell < 36; cell++) {
            BeltFloor f = new BeltFloor();
            Check.same("setKind of " + cell, f.setKind(cell, 5), 0);
            Check.same("kindOf " + cell, f.kindOf(cell), 5);
        }
    }

    private static void eachKind() {
        for (int before = 0; before <= 6; before++) {
            for (int kind = 0; kind <= 6; kind++) {
                BeltFloor f = new BeltFloor();
                f.setKind(20, before);
                Check.same("setKind", f.setKind(20, kind), before);
                Check.same("kindOf", f.kindOf(20), kind);
            }
        }
    }

    private static void previousKind() {
        BeltFloor f = new BeltFloor();
        int previous = 0;
        for (int kind : new int[] {6, 6, 1, 2, 1, 0, 3, 5, 4, 0}) {
            Check.same("previous kind", f.setKind(8, kind), previous);
            previous = kind;
        }
        f.undo();
        Check.same("behind undo", f.setKind(8, 1), 4);
    }

    private static void kindOfNoCell() {
        for (int cell : Floors.WRONG_CELLS) {
            Whole.refusesIndex("setKind of " + cell, f -> f.setKind(cell, 0));
            Whole.refusesIndex("setKind of " + cell + " to a block", f -> f.setKind(cell, 1));
        }
    }

    private static void noSuchKind() {
        for (int kind : new int[] {-1, 7, 8, 256, Integer.MIN_VALUE, Integer.MAX_VALUE}) {
            Whole.refusesArgument("setKind to " + kind, f -> f.setKind(22, kind));
            Whole.refuses("under a robot to " + kind, MIXED, f -> f.setKind(30, kind), "IllegalArgumentException");
        }
    }

    private static void kindUnderAThing() {
        for (int cell : new int[] {7, 30, 35}) {
            Whole.refusesState("a block on " + cell, MIXED, f -> f.setKind(cell, 1));
            Whole.refusesState("a pit on " + cell, MIXED, f -> f.setKind(cell, 2));
            for (int kind : new int[] {0, 3, 4, 5, 6}) {
                Check.same("the kind " + kind, Whole.after(MIXED).setKind(cell, kind), 0);
            }
        }
        BeltFloor f = Whole.after(MIXED);
        f.takeCrate(7);
        f.putRobot(0, 20, 0);
        Check.same("a block where the crate was", f.setKind(7, 1), 0);
        Check.same("a pit where the robot was", f.setKind(30, 2), 0);
        Check.same("a block where a pit was", f.setKind(30, 1), 2);
        Check.badState("a pit where the robot is", () -> f.setKind(20, 2));
    }

    private static void kindUnderACheckpoint() {
        for (int cell : new int[] {8, 9}) {
            Whole.refusesState("a block on " + cell, MIXED, f -> f.setKind(cell, 1));
            Whole.refusesState("a pit on " + cell, MIXED, f -> f.setKind(cell, 2));
            for (int kind : new int[] {0, 3, 4, 5, 6}) {
                Check.same("the kind " + kind, Whole.after(MIXED).setKind(cell, kind), 0);
            }
        }
        for (int number = 1; number <= 4; number++) {
            int cell = new int[] {0, 7, 21, 28}[number - 1];
            Whole.refusesState("a pit on the checkpoint " + number, Whole.FULL, f -> f.setKind(cell, 2));
        }
        BeltFloor f = Whole.after(MIXED);
        Check.same("beside them", f.setKind(10, 2), 0);
    }

    // ---- addCrate

    private static void addsACrate() {
        BeltFloor f = Whole.after(MIXED);
        f.addCrate(10);
        Check.same("on floor", Floors.look(f), "30n 35n c7 c10");
        f.addCrate(3);
        Check.same("on a belt", Floors.look(f), "30n 35n c3 c7 c10");
        f.addCrate(8);
        Check.same("on a checkpoint", Floors.look(f), "30n 35n c3 c7 c8 c10");
    }

    private static void crateOnEachCell() {
        for (int cell = 0; cell < 36; cell++) {
            BeltFloor f = new BeltFloor();
            Floors.putRobots(f, (cell + 1) % 36, 0, (cell + 2) % 36, 0);
            Check.same("addCrate " + cell, f.addCrate(cell), 1);
            for (int other = 0; other < 36; other++) {
                Check.same("crate on " + other, f.hasCrate(other), other == cell);
            }
        }
    }

    private static void howManyWithIt() {
        BeltFloor f = new BeltFloor();
        for (int n = 1; n <= 8; n++) {
            Check.same("crates", f.addCrate(n), n);
        }
        f.takeCrate(3);
        f.takeCrate(4);
        Check.same("behind two less", f.addCrate(20), 7);
        BeltFloor g = Floors.of("...... .eo... ...... ...... ...... ......", "c07c01");
        g.step(1);
        Check.same("those that were lost do not count", g.addCrate(2), 2);
    }

    private static void crateOnNoCell() {
        for (int cell : Floors.WRONG_CELLS) {
            Whole.refusesIndex("addCrate " + cell, f -> f.addCrate(cell));
        }
    }

    private static void crateOnABlockOrAPit() {
        Whole.refusesState("on a block", MIXED, f -> f.addCrate(1));
        Whole.refusesState("on a pit", MIXED, f -> f.addCrate(2));
        BeltFloor f = Whole.after(MIXED);
        f.setKind(1, 0);
        f.setKind(2, 6);
        Check.same("no block any more", f.addCrate(1), 2);
        Check.same("no pit any more", f.addCrate(2), 3);
    }

    private static void crateOnAThing() {
        Whole.refusesState("on a crate", MIXED, f -> f.addCrate(7));
        Whole.refusesState("on the robot 0", MIXED, f -> f.addCrate(30));
        Whole.refusesState("on the robot 1", MIXED, f -> f.addCrate(35));
        BeltFloor f = Whole.after(MIXED);
        f.putRobot(0, 0, 0);
        Check.same("where a robot was", f.addCrate(30), 2);
        Check.badState("where it is", () -> f.addCrate(0));
    }

    private static void aNinthCrate() {
        Whole.refusesState("on floor", Whole.FULL, f -> f.addCrate(33));
        Whole.refusesState("on a checkpoint", Whole.FULL, f -> f.addCrate(28));
        BeltFloor f = Whole.after(Whole.FULL);
        Check.same("crates", f.cratesByCells(), 8);
    }

    // ---- takeCrate

    private static void takesACrate() {
        BeltFloor f = Floors.of(Floors.EMPTY + "c07c08c09");
        f.takeCrate(8);
        Check.same("it is gone", Floors.look(f), "30n 35n c7 c9");
        Check.same("another one may come there", f.addCrate(8), 3);
        f.takeCrate(8);
        f.putRobot(0, 8, 0);
        Check.same("or a robot", f.cellOf(0), 8);
    }

    private static void isNotLost() {
        BeltFloor f = Floors.of("...... .eo... ...... ...... ...... ......", "c07c09");
        f.takeCrate(9);
        Check.same("lost", f.lost(), 0);
        Check.same("by accounts", f.cratesByAccounts(), 1);
        f.step(1);
        Check.same("lost in a step", f.lost(), 1);
        f.addCrate(9);
        f.takeCrate(9);
        Check.same("still one", f.lost(), 1);
        Check.same("by accounts", f.cratesByAccounts(), 0);
    }

    private static void crateFromEachCell() {
        for (int cell = 0; cell < 36; cell++) {
            BeltFloor f = new BeltFloor();
            Floors.putRobots(f, (cell + 1) % 36, 0, (cell + 2) % 36, 0);
            f.addCrate(cell);
            f.addCrate((cell + 3) % 36);
            Check.same("takeCrate " + cell, f.takeCrate(cell), 1);
            Check.same("it is gone", f.hasCrate(cell), false);
            Check.same("the other one stays", f.hasCrate((cell + 3) % 36), true);
        }
    }

    private static void howManyWithoutIt() {
        BeltFloor f = Whole.after(Whole.NEW);
        for (int n = 0; n < 8; n++) {
            f.addCrate(2 * n);
        }
        for (int n = 7; n >= 0; n--) {
            Check.same("crates", f.takeCrate(2 * n), n);
        }
    }

    private static void crateFromNoCell() {
        for (int cell : Floors.WRONG_CELLS) {
            Whole.refusesIndex("takeCrate " + cell, f -> f.takeCrate(cell));
        }
    }

    private static void noCrateThere() {
        for (int cell : new int[] {0, 1, 2, 3, 6, 8, 30, 35}) {
            Whole.refusesState("takeCrate " + cell, MIXED, f -> f.takeCrate(cell));
        }
        Whole.refusesState("again", f -> {
            f.addCrate(7);
            f.takeCrate(7);
        }, f -> f.takeCrate(7));
        Whole.refusesState("of a new object", Whole.NEW, f -> f.takeCrate(0));
    }

    // ---- addCheckpoint

    private static void addsACheckpoint() {
        BeltFloor f = Whole.after(MIXED);
        f.addCheckpoint(3);
        Check.same("on a belt", f.cellOfCheckpoint(3), 3);
        f.addCheckpoint(7);
        Check.same("under a crate", f.cellOfCheckpoint(4), 7);
        f.undo();
        f.addCheckpoint(35);
        Check.same("under a robot", f.cellOfCheckpoint(4), 35);
        Check.same("checkpoints", f.checkpoints(), 4);
    }

    private static void atTheEarliest() {
        BeltFloor f = new BeltFloor();
        f.addCheckpoint(30);
        Check.same("next", f.nextOf(0), 1);
        Check.same("home", f.isHome(0), false);
        Check.same("passed in a step", f.step(1), 1);
        Check.same("next", f.nextOf(0), 2);
        BeltFloor g = Floors.of(Floors.EMPTY + "i00.");
        g.addCheckpoint(30);
        Check.same("not passed by one that goes away", g.step(1), 0);
    }

    private static void checkpointOnEachCell() {
        for (int cell = 0; cell < 36; cell++) {
            BeltFloor f = new BeltFloor();
            Check.same("addCheckpoint " + cell, f.addCheckpoint(cell), 1);
            Check.same("its cell", f.cellOfCheckpoint(1), cell);
        }
    }

    private static void itsNumber() {
        BeltFloor f = new BeltFloor();
        for (int n = 1; n <= 4; n++) {
            Check.same("number", f.addCheckpoint(10 - n), n);
        }
        f.undo();
        f.undo();
        Check.same("number behind undo", f.addCheckpoint(0), 3);
    }

    private static void checkpointOnNoCell() {
        for (int cell : Floors.WRONG_CELLS) {
            Whole.refusesIndex("addCheckpoint " + cell, f -> f.addCheckpoint(cell));
        }
    }

    private static void checkpointOnABlockOrAPit() {
        Whole.refusesState("on a block", MIXED, f -> f.addCheckpoint(1));
        Whole.refusesState("on a pit", MIXED, f -> f.addCheckpoint(2));
    }

    private static void checkpointOnACheckpoint() {
        Whole.refusesState("on the first one", MIXED, f -> f.addCheckpoint(8));
        Whole.refusesState("on the last one", MIXED, f -> f.addCheckpoint(9));
        Whole.refusesState("on one that was passed", f -> {
            f.addCheckpoint(30);
            f.step(1);
        }, f -> f.addCheckpoint(30));
    }

    private static void aFifthCheckpoint() {
        Whole.refusesState("on floor", Whole.FULL, f -> f.addCheckpoint(33));
        Whole.refusesState("when all are passed", f -> {
            for (int cell = 24; cell >= 6; cell -= 6) {
                f.addCheckpoint(cell);
            }
            f.write(0, 0);
            f.step(6);
        }, f -> f.addCheckpoint(33));
    }

    // ---- putRobot

    private static void putsARobot() {
        BeltFloor f = Whole.after(MIXED);
        f.putRobot(0, 10, 1);
        Check.same("onto floor", Floors.look(f), "10e 35n c7");
        f.putRobot(0, 3, 2);
        Check.same("onto a belt", Floors.look(f), "3s 35n c7");
        f.putRobot(0, 8, 3);
        Check.same("onto a checkpoint", Floors.look(f), "8w 35n c7");
        f.putRobot(1, 10, 0);
        Check.same("the other one", Floors.look(f), "8w 10n c7");
        Check.same("nothing is counted", Floors.counts(f), "0 0 0 0, 0 0 0 0");
        Check.same("no checkpoint is passed", f.nextOf(0), 1);
        BeltFloor g = Floors.of(Floors.EMPTY + "i0055.");
        g.step(2);
        g.putRobot(0, 8, 0);
        Check.same("its place stays", g.placeOf(0), 2);
        Check.same("its moves stay", g.movesOf(0), 1);
    }

    private static void putsBoth() {
        BeltFloor f = new BeltFloor();
        Check.same("robot 0", f.putRobot(0, 8, 1), 30);
        Check.same("robot 1", f.putRobot(1, 9, 3), 35);
        Check.same("both", Floors.look(f), "8e 9w");
    }

    private static void ontoEachCell() {
        for (int cell = 0; cell < 36; cell++) {
            if (cell != 35) {
                BeltFloor f = new BeltFloor();
                Check.same("robot 0 onto " + cell, f.putRobot(0, cell, 2), 30);
                Check.same("robot 0 on " + cell, Floors.look(f), cell + "s 35n");
            }
            if (cell != 30) {
                BeltFloor f = new BeltFloor();
                Check.same("robot 1 onto " + cell, f.putRobot(1, cell, 2), 35);
                Check.same("robot 1 on " + cell, Floors.look(f), "30n " + cell + "s");
            }
        }
    }

    private static void eachFacing() {
        for (int facing = 0; facing <= 3; facing++) {
            BeltFloor f = new BeltFloor();
            f.putRobot(0, 14, facing);
            Check.same("facing", f.facingOf(0), facing);
            Check.same("the other one", f.facingOf(1), 0);
            f.write(0, 0);
            f.step(1);
            Check.same("it goes there", f.cellOf(0), Floors.beside(14, facing));
            f.putRobot(1, 29, facing);
            Check.same("facing of 1", f.facingOf(1), facing);
        }
    }

    private static void whereItWas() {
        BeltFloor f = new BeltFloor();
        Check.same("at first", f.putRobot(0, 0, 0), 30);
        Check.same("then", f.putRobot(0, 5, 0), 0);
        Check.same("on its own cell", f.putRobot(0, 5, 3), 5);
        Check.same("it faces as it was put", f.facingOf(0), 3);
        f.write(0, 0);
        f.step(2);
        Check.same("behind steps", f.putRobot(0, 20, 0), 3);
    }

    private static void noSuchRobotOrCell() {
        for (int robot : Floors.WRONG_ROBOTS) {
            Whole.refusesIndex("putRobot " + robot, f -> f.putRobot(robot, 33, 0));
        }
        for (int cell : Floors.WRONG_CELLS) {
            Whole.refusesIndex("robot 0 onto " + cell, f -> f.putRobot(0, cell, 0));
            Whole.refusesIndex("robot 1 onto " + cell, f -> f.putRobot(1, cell, 0));
        }
        Whole.refusesIndex("neither", f -> f.putRobot(2, 36, 0));
    }

    private static void noSuchFacing() {
        for (int facing : new int[] {-1, 4, 5, 256, Integer.MIN_VALUE, Integer.MAX_VALUE}) {
            Whole.refusesArgument("robot 0 facing " + facing, f -> f.putRobot(0, 33, facing));
            Whole.refusesArgument("robot 1 facing " + facing, f -> f.putRobot(1, 33, facing));
        }
    }

    private static void robotOnABlockOrAPit() {
        for (int robot = 0; robot < 2; robot++) {
            int r = robot;
            Whole.refusesState("on a block", MIXED, f -> f.putRobot(r, 1, 0));
            Whole.refusesState("on a pit", MIXED, f -> f.putRobot(r, 2, 0));
        }
        // The pit on which it has to stay is no other thing's, but a pit.
        Whole.refusesState("on its own pit", f -> {
            Floors.type(f, "F########################o#####n####.");
            f.load();
            f.step(1);
        }, f -> f.putRobot(0, 24, 0));
    }

    private static void robotOnAnotherThing() {
        for (int robot = 0; robot < 2; robot++) {
            int r = robot;
            Whole.refusesState("on a crate", MIXED, f -> f.putRobot(r, 7, 0));
            Whole.refusesState("on the other robot", MIXED, f -> f.putRobot(r, r == 0 ? 35 : 30, 0));
            Check.same("on itself", Whole.after(MIXED).putRobot(r, r == 0 ? 30 : 35, 2), r == 0 ? 30 : 35);
        }
        BeltFloor f = new BeltFloor();
        f.putRobot(0, 8, 0);
        Check.same("where the other one was", f.putRobot(1, 30, 0), 35);
        Check.badState("where it is", () -> f.putRobot(1, 8, 0));
    }

    // ---- write

    private static void writes() {
        BeltFloor f = new BeltFloor();
        int[] instructions = {5, 0, 4, 1, 3, 2};
        for (int i = 0; i < instructions.length; i++) {
            f.write(0, instructions[i]);
            for (int place = 0; place <= i; place++) {
                Check.same("place " + place, f.instructionAt(0, place), instructions[place]);
            }
        }
        BeltFloor g = Floors.of(Floors.EMPTY + "i155.");
        g.step(1);
        g.write(1, 4);
        Check.same("the place stays", g.placeOf(1), 1);
        g.step(2);
        Check.same("it was followed", g.facingOf(1), 2);
        Check.same("behind it comes the first one", g.placeOf(1), 0);
    }

    private static void writesForBoth() {
        for (int robot = 0; robot < 2; robot++) {
            BeltFloor f = new BeltFloor();
            Check.same("write", f.write(robot, 3), 1);
            Check.same("length", f.lengthOf(robot), 1);
            Check.same("length of the other one", f.lengthOf(1 - robot), 0);
            f.step(1);
            Check.same("facing", f.facingOf(robot), 1);
            Check.same("facing of the other one", f.facingOf(1 - robot), 0);
        }
    }

    private static void eachInstruction() {
        for (int instruction = 0; instruction <= 5; instruction++) {
            BeltFloor f = new BeltFloor();
            Check.same("write " + instruction, f.write(0, instruction), 1);
            Check.same("instruction", f.instructionAt(0, 0), instruction);
        }
    }

    private static void howManyInstructions() {
        BeltFloor f = new BeltFloor();
        for (int n = 1; n <= 10; n++) {
            Check.same("write", f.write(1, 5), n);
        }
        f.undo();
        f.undo();
        Check.same("behind undo", f.write(1, 5), 9);
        f.wipe(1);
        Check.same("behind wipe", f.write(1, 5), 1);
    }

    private static void writesForNoOther() {
        for (int robot : Floors.WRONG_ROBOTS) {
            Whole.refusesIndex("write " + robot, f -> f.write(robot, 0));
        }
    }

    private static void noSuchInstruction() {
        for (int instruction : new int[] {-1, 6, 7, 256, Integer.MIN_VALUE, Integer.MAX_VALUE}) {
            Whole.refusesArgument("robot 0: " + instruction, f -> f.write(0, instruction));
            Whole.refusesArgument("robot 1: " + instruction, f -> f.write(1, instruction));
        }
    }

    private static void anEleventhInstruction() {
        for (int instruction = 0; instruction <= 5; instruction++) {
            int i = instruction;
            Whole.refusesState("robot 0: " + i, Whole.FULL, f -> f.write(0, i));
            Whole.refusesState("robot 1: " + i, Whole.FULL, f -> f.write(1, i));
        }
    }
}
