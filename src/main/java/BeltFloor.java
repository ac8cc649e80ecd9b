/**
 * Two robots on a floor with belts, blocks, pits, crates and checkpoints.
 * README.md says how to use it.
 */
public final class BeltFloor {
    public static final int NONE = -1;

    private static final int CELLS = 36;
    private static final int ROBOTS = 2;
    private static final int DIRECTIONS = 4;

    private static final int FLOOR = 0;
    private static final int BLOCK = 1;
    private static final int PIT = 2;
    private static final int BELT_NORTH = 3;
    private static final int BELT_EAST = 4;
    private static final int BELT_SOUTH = 5;
    private static final int BELT_WEST = 6;
    private static final int KINDS = 7;

    private static final int FORWARD = 0;
    private static final int BACK = 1;
    private static final int LEFT = 2;
    private static final int RIGHT = 3;
    private static final int ROUND = 4;
    private static final int WAIT = 5;
    private static final int INSTRUCTIONS = 6;

    private static final int MOST_SIGNS = 120;
    private static final int MOST_CODE = 255;
    private static final int MOST_CRATES = 8;
    private static final int MOST_CHECKPOINTS = 4;
    private static final int MOST_INSTRUCTIONS = 10;
    private static final int MOST_STEPS = 40;
    private static final int MOST_REMEMBERED = 14;
    private static final int MOST_TURNS = 60;
    private static final int STEPS_TO_PASS = 150;
    private static final int STEPS_TO_SETTLE = 120;
    private static final int KEPT = 2 * STEPS_TO_SETTLE + 1;

    private final Text text = new Text();
    private final Floor floor = new Floor();
    /** What would be is tried out here, so that the floor itself stays as it is. */
    private final Floor trial = new Floor();
    private final History history = new History();
    private final Slot firstSlot = new Slot();
    private final Slot secondSlot = new Slot();
    private final Finder finder = new Finder();
    private final long[] keptCrates = new long[KEPT];
    private final long[] keptRobots = new long[KEPT];

    public BeltFloor() {
    }

    // ---- text

    public int append(int c) throws IllegalArgumentException, IllegalStateException {
        if (c < 0 || c > MOST_CODE) {
            throw new IllegalArgumentException("no such character code");
        }
        if (text.length >= MOST_SIGNS) {
            throw new IllegalStateException("the text is full");
        }
        text.add(c);
        return text.length;
    }

    public int clearText() {
        int previous = text.length;
        text.length = 0;
        return previous;
    }

    public int errorPosition() {
        return text.firstError();
    }

    public int load() throws IllegalStateException {
        if (text.firstError() != NONE) {
            throw new IllegalStateException("the text is not a floor");
        }
        floor.makeNew();
        history.count = 0;
        firstSlot.used = false;
        secondSlot.used = false;
        return text.giveTo(floor);
    }

    // ---- the floor

    public int kindOf(int cell) throws IndexOutOfBoundsException {
        checkCell(cell);
        return floor.kindAt(cell);
    }

    public boolean hasCrate(int cell) throws IndexOutOfBoundsException {
        checkCell(cell);
        return Grid.holds(floor.crates, cell);
    }

    public int cratesByCells() {
        return floor.crateCount();
    }

    public int cratesByAccounts() {
        return floor.addedCrates - floor.takenCrates - floor.lostCrates;
    }

    public int lost() {
        return floor.lostCrates;
    }

    public int checkpoints() {
        return floor.checkpointCount;
    }

    public int cellOfCheckpoint(int checkpoint) throws IndexOutOfBoundsException {
        int cell = floor.checkpointCell(checkpoint);
        if (cell == NONE) {
            throw new IndexOutOfBoundsException("no such checkpoint");
        }
        return cell;
    }

    // ---- robots

    public int cellOf(int robot) throws IndexOutOfBoundsException {
        checkRobot(robot);
        return floor.robot(robot).cell;
    }

    public int facingOf(int robot) throws IndexOutOfBoundsException {
        checkRobot(robot);
        return floor.robot(robot).facing;
    }

    public int nextOf(int robot) throws IndexOutOfBoundsException {
        checkRobot(robot);
        return floor.robot(robot).next;
    }

    public boolean isHome(int robot) throws IndexOutOfBoundsException {
        checkRobot(robot);
        return floor.checkpointCount > 0 && floor.robot(robot).next > floor.checkpointCount;
    }

    public int movesOf(int robot) throws IndexOutOfBoundsException {
        checkRobot(robot);
        return floor.robot(robot).moves;
    }

    public int bumpsOf(int robot) throws IndexOutOfBoundsException {
        checkRobot(robot);
        return floor.robot(robot).bumps;
    }

    public int pushesOf(int robot) throws IndexOutOfBoundsException {
        checkRobot(robot);
        return floor.robot(robot).pushes;
    }

    public int fallsOf(int robot) throws IndexOutOfBoundsException {
        checkRobot(robot);
        return floor.robot(robot).falls;
    }

    public int steps() {
        return floor.stepsMade;
    }

    // ---- programs

    public int lengthOf(int robot) throws IndexOutOfBoundsException {
        checkRobot(robot);
        return floor.robot(robot).length;
    }

    public int instructionAt(int robot, int place) throws IndexOutOfBoundsException {
        checkRobot(robot);
        int instruction = floor.robot(robot).instruction(place);
        if (instruction == NONE) {
            throw new IndexOutOfBoundsException("no such place");
        }
        return instruction;
    }

    public int placeOf(int robot) throws IndexOutOfBoundsException {
        checkRobot(robot);
        return floor.robot(robot).place;
    }

    // ---- actions

    public int setKind(int cell, int kind)
            throws IndexOutOfBoundsException, IllegalArgumentException, IllegalStateException {
        checkCell(cell);
        if (kind < 0 || kind >= KINDS) {
            throw new IllegalArgumentException("no such kind");
        }
        if (floor.refusesKind(cell, kind)) {
            throw new IllegalStateException("a thing or a checkpoint is on the cell");
        }
        history.remember(floor);
        int previous = floor.kindAt(cell);
        floor.giveKind(cell, kind);
        return previous;
    }

    public int addCrate(int cell) throws IndexOutOfBoundsException, IllegalStateException {
        checkCell(cell);
        if (floor.refusesCrate(cell)) {
            throw new IllegalStateException("the cell takes no crate, or there are enough");
        }
        history.remember(floor);
        floor.layCrate(cell);
        return floor.crateCount();
    }

    public int takeCrate(int cell) throws IndexOutOfBoundsException, IllegalStateException {
        checkCell(cell);
        if (!Grid.holds(floor.crates, cell)) {
            throw new IllegalStateException("no crate is there");
        }
        history.remember(floor);
        floor.liftCrate(cell);
        return floor.crateCount();
    }

    public int addCheckpoint(int cell) throws IndexOutOfBoundsException, IllegalStateException {
        checkCell(cell);
        if (floor.refusesCheckpoint(cell)) {
            throw new IllegalStateException("the cell takes no checkpoint, or there are enough");
        }
        history.remember(floor);
        floor.markCheckpoint(cell);
        return floor.checkpointCount;
    }

    public int putRobot(int robot, int cell, int facing)
            throws IndexOutOfBoundsException, IllegalArgumentException, IllegalStateException {
        checkRobot(robot);
        checkCell(cell);
        if (facing < 0 || facing >= DIRECTIONS) {
            throw new IllegalArgumentException("no such direction");
        }
        if (floor.refusesRobot(robot, cell)) {
            throw new IllegalStateException("the cell takes no robot");
        }
        history.remember(floor);
        int previous = floor.robot(robot).cell;
        floor.placeRobot(robot, cell, facing);
        return previous;
    }

    public int write(int robot, int instruction)
            throws IndexOutOfBoundsException, IllegalArgumentException, IllegalStateException {
        checkRobot(robot);
        if (instruction < 0 || instruction >= INSTRUCTIONS) {
            throw new IllegalArgumentException("no such instruction");
        }
        if (floor.robot(robot).length >= MOST_INSTRUCTIONS) {
            throw new IllegalStateException("the program is full");
        }
        history.remember(floor);
        floor.robot(robot).learn(instruction);
        return floor.robot(robot).length;
    }

    public int wipe(int robot) throws IndexOutOfBoundsException {
        checkRobot(robot);
        history.remember(floor);
        int previous = floor.robot(robot).length;
        floor.robot(robot).forgetProgram();
        return previous;
    }

    public int step(int n) throws IllegalArgumentException {
        if (n < 1 || n > MOST_STEPS) {
            throw new IllegalArgumentException("no such number of steps");
        }
        history.remember(floor);
        return Step.makeSome(floor, n);
    }

    public int undo() throws IllegalStateException {
        if (history.count <= 0) {
            throw new IllegalStateException("no state is remembered");
        }
        history.takeBack(floor);
        return history.count;
    }

    // ---- what would be; these and all following methods up to the save slots change nothing

    public int rowAhead(int robot) throws IndexOutOfBoundsException {
        checkRobot(robot);
        Robot mover = floor.robot(robot);
        long way = Step.wayFrom(floor, mover.cell, mover.facing);
        return way == 0 ? NONE : Long.bitCount(Step.rowOf(floor, mover, way));
    }

    public boolean wouldClash() {
        return Step.clash(Step.wayOf(floor, floor.first), Step.wayOf(floor, floor.second));
    }

    public int passesIn(int robot) throws IndexOutOfBoundsException {
        checkRobot(robot);
        trial.copyFrom(floor);
        Robot watched = trial.robot(robot);
        int next = watched.next;
        for (int made = 1; made <= STEPS_TO_PASS; made++) {
            Step.makeOne(trial);
            if (watched.next != next) {
                return made;
            }
        }
        return NONE;
    }

    public int loopByWaiting() {
        trial.copyFrom(floor);
        Step.makeSome(trial, STEPS_TO_SETTLE);
        long crates = trial.crates;
        long robots = trial.robotsAsNumber();
        for (int more = 1; more <= STEPS_TO_SETTLE; more++) {
            Step.makeOne(trial);
            if (trial.crates == crates && trial.robotsAsNumber() == robots) {
                return more;
            }
        }
        return NONE;
    }

    public int loopByKeeping() {
        trial.copyFrom(floor);
        for (int made = 0; made < keptCrates.length && made < keptRobots.length; made++) {
            keptCrates[made] = trial.crates;
            keptRobots[made] = trial.robotsAsNumber();
            Step.makeOne(trial);
        }
        for (int more = 1; more <= STEPS_TO_SETTLE; more++) {
            if (keptAlike(STEPS_TO_SETTLE, STEPS_TO_SETTLE + more)) {
                return more;
            }
        }
        return NONE;
    }

    public int fewestBySpreading(int robot, int cell) throws IndexOutOfBoundsException {
        checkRobot(robot);
        checkCell(cell);
        Robot mover = floor.robot(robot);
        return finder.spread(floor, Finder.standOf(mover.cell, mover.facing), cell);
    }

    public int fewestBySweeping(int robot, int cell) throws IndexOutOfBoundsException {
        checkRobot(robot);
        checkCell(cell);
        Robot mover = floor.robot(robot);
        return finder.sweep(floor, Finder.standOf(mover.cell, mover.facing), cell);
    }

    // ---- a simulation

    public int simulate(long seed, int m) throws IllegalArgumentException {
        if (m < 1 || m > MOST_TURNS) {
            throw new IllegalArgumentException("no such number of turns");
        }
        trial.copyFrom(floor);
        long x = seed;
        int passed = 0;
        for (int turn = 0; turn < m; turn++) {
            x = x * 6364136223846793005L + 1442695040888963407L;
            passed += Step.makeSome(trial, makeTurn((int) (x >>> 33)));
        }
        return 10000 * passed + 100 * trial.first.cell + trial.second.cell;
    }

    // ---- save slots

    public int save(int slot) throws IndexOutOfBoundsException {
        checkSlot(slot);
        Slot chosen = slotOf(slot);
        chosen.floor.copyFrom(floor);
        chosen.used = true;
        return floor.stepsMade;
    }

    public int restore(int slot) throws IndexOutOfBoundsException, IllegalStateException {
        checkSlot(slot);
        Slot chosen = slotOf(slot);
        if (!chosen.used) {
            throw new IllegalStateException("nothing has been saved there");
        }
        floor.copyFrom(chosen.floor);
        history.count = 0;
        return floor.stepsMade;
    }

    // ---- help for the calls above

    private static void checkCell(int cell) {
        if (cell < 0 || cell >= CELLS) {
            throw new IndexOutOfBoundsException("no such cell");
        }
    }

    private static void checkRobot(int robot) {
        if (robot < 0 || robot >= ROBOTS) {
            throw new IndexOutOfBoundsException("no such robot");
        }
    }

    private static void checkSlot(int slot) {
        if (slot != 0 && slot != 1) {
            throw new IndexOutOfBoundsException("no such save slot");
        }
    }

    private Slot slotOf(int slot) {
        return slot == 0 ? firstSlot : secondSlot;
    }

    private boolean keptAlike(int one, int other) {
        int kept = Math.min(keptCrates.length, keptRobots.length);
        if (one < 0 || one >= kept || other < 0 || other >= kept) {
            return false;
        }
        return keptCrates[one] == keptCrates[other] && keptRobots[one] == keptRobots[other];
    }

    /** Makes one turn of a simulation on the trial floor, all but its steps; returns how many those are. */
    private int makeTurn(int r) {
        int q = r / 16;
        switch (r % 16) {
            case 0:
            case 1:
            case 2:
                trial.giveKind(q % CELLS, q / 64 % KINDS);
                return 0;
            case 3:
            case 4:
                trial.layCrate(q % CELLS);
                return 0;
            case 5:
                trial.markCheckpoint(q % CELLS);
                return 0;
            case 6:
                trial.placeRobot(q % ROBOTS, q / 2 % CELLS, q / 128 % DIRECTIONS);
                return 0;
            case 7:
            case 8:
            case 9:
            case 10:
                trial.robot(q % ROBOTS).learn(q / 2 % INSTRUCTIONS);
                return 0;
            case 11:
                if (q / 2 % 4 == 0) {
                    trial.robot(q % ROBOTS).forgetProgram();
                }
                return 0;
            default:
                return 1 + q % 4;
        }
    }

    /** Cells and directions. A set of cells is a long: the bit of the place c stands for the cell c. */
    private static final class Grid {
        static final int SIDE = 6;
        static final int NORTH = 0;
        static final int EAST = 1;
        static final int SOUTH = 2;

        private Grid() {
        }

        static long setOf(int cell) {
            return cell >= 0 && cell < CELLS ? 1L << cell : 0L;
        }

        static boolean holds(long cells, int cell) {
            return cell >= 0 && cell < CELLS && (cells >>> cell & 1L) != 0L;
        }

        static int turned(int direction, int quartersToTheRight) {
            return (direction + quartersToTheRight) & (DIRECTIONS - 1);
        }

        /** The cell beside a cell in a direction; NONE if it is not on the floor. */
        static int beside(int cell, int direction) {
            if (cell < 0 || cell >= CELLS) {
                return NONE;
            }
            int column = cell % SIDE;
            switch (direction) {
                case NORTH:
                    return cell >= SIDE ? cell - SIDE : NONE;
                case EAST:
                    return column < SIDE - 1 ? cell + 1 : NONE;
                case SOUTH:
                    return cell < CELLS - SIDE ? cell + SIDE : NONE;
                default:
                    return column > 0 ? cell - 1 : NONE;
            }
        }

        /** The cells beside those of a set; all of them must be on the floor. */
        static long allBeside(long cells, int direction) {
            switch (direction) {
                case NORTH:
                    return cells >>> SIDE;
                case EAST:
                    return cells << 1;
                case SOUTH:
                    return cells << SIDE;
                default:
                    return cells >>> 1;
            }
        }
    }

    /** A robot with its program and what is counted of it. */
    private static final class Robot {
        int cell;
        int facing;
        int next;
        int moves;
        int bumps;
        int pushes;
        int falls;
        int place;
        int length;
        private final int[] program = new int[MOST_INSTRUCTIONS];

        void makeNew(int firstCell) {
            cell = firstCell;
            facing = Grid.NORTH;
            next = 1;
            moves = 0;
            bumps = 0;
            pushes = 0;
            falls = 0;
            forgetProgram();
        }

        void copyFrom(Robot other) {
            cell = other.cell;
            facing = other.facing;
            next = other.next;
            moves = other.moves;
            bumps = other.bumps;
            pushes = other.pushes;
            falls = other.falls;
            place = other.place;
            length = other.length;
            for (int i = 0; i < program.length && i < other.program.length; i++) {
                program[i] = other.program[i];
            }
        }

        void forgetProgram() {
            place = 0;
            length = 0;
        }

        /** Adds an instruction to the program; returns whether it found room. */
        boolean learn(int instruction) {
            if (length < 0 || length >= program.length) {
                return false;
            }
            program[length] = instruction;
            length++;
            return true;
        }

        /** The instruction at a place; NONE if there is no such place. */
        int instruction(int at) {
            return at >= 0 && at < length && at < program.length ? program[at] : NONE;
        }

        int instructionNow() {
            return length == 0 ? WAIT : instruction(place);
        }

        /** The direction in which the robot wants to move now; NONE if it does not want to. */
        int wantedDirection() {
            switch (instructionNow()) {
                case FORWARD:
                    return facing;
                case BACK:
                    return Grid.turned(facing, 2);
                default:
                    return NONE;
            }
        }

        void turn() {
            switch (instructionNow()) {
                case LEFT:
                    facing = Grid.turned(facing, 3);
                    break;
                case RIGHT:
                    facing = Grid.turned(facing, 1);
                    break;
                case ROUND:
                    facing = Grid.turned(facing, 2);
                    break;
                default:
                    break;
            }
        }

        void comeToNextPlace() {
            place = place + 1 < length ? place + 1 : 0;
        }
    }

    /** The state: everything but the text and the save slots. */
    private static final class Floor {
        private static final int FIRST_CELL_OF_0 = 30;
        private static final int FIRST_CELL_OF_1 = 35;

        private final int[] kinds = new int[CELLS];
        private final int[] checkpointCells = new int[MOST_CHECKPOINTS];
        final Robot first = new Robot();
        final Robot second = new Robot();
        long crates;
        /** The cells of the kinds that a step has to do with, so that it need not look at every cell. */
        long belts;
        long pits;
        int checkpointCount;
        int addedCrates;
        int takenCrates;
        int lostCrates;
        int stepsMade;

        Floor() {
            makeNew();
        }

        void makeNew() {
            for (int cell = 0; cell < kinds.length; cell++) {
                kinds[cell] = FLOOR;
            }
            first.makeNew(FIRST_CELL_OF_0);
            second.makeNew(FIRST_CELL_OF_1);
            crates = 0L;
            belts = 0L;
            pits = 0L;
            checkpointCount = 0;
            addedCrates = 0;
            takenCrates = 0;
            lostCrates = 0;
            stepsMade = 0;
        }

        void copyFrom(Floor other) {
            for (int cell = 0; cell < kinds.length && cell < other.kinds.length; cell++) {
                kinds[cell] = other.kinds[cell];
            }
            for (int i = 0; i < checkpointCells.length && i < other.checkpointCells.length; i++) {
                checkpointCells[i] = other.checkpointCells[i];
            }
            first.copyFrom(other.first);
            second.copyFrom(other.second);
            crates = other.crates;
            belts = other.belts;
            pits = other.pits;
            checkpointCount = other.checkpointCount;
            addedCrates = other.addedCrates;
            takenCrates = other.takenCrates;
            lostCrates = other.lostCrates;
            stepsMade = other.stepsMade;
        }

        Robot robot(int number) {
            return number == 0 ? first : second;
        }

        /** The kind of a cell; what is not on the floor is as a block. */
        int kindAt(int cell) {
            return cell >= 0 && cell < kinds.length ? kinds[cell] : BLOCK;
        }

        int crateCount() {
            return Long.bitCount(crates);
        }

        long things() {
            return crates | Grid.setOf(first.cell) | Grid.setOf(second.cell);
        }

        /** The cell of a checkpoint; NONE if there is no such checkpoint. */
        int checkpointCell(int checkpoint) {
            int i = checkpoint - 1;
            return checkpoint >= 1 && i < checkpointCount && i < checkpointCells.length
                    ? checkpointCells[i] : NONE;
        }

        private boolean isCheckpoint(int cell) {
            for (int checkpoint = 1; checkpoint <= checkpointCount; checkpoint++) {
                if (checkpointCell(checkpoint) == cell) {
                    return true;
                }
            }
            return false;
        }

        boolean isBlockOrPit(int cell) {
            return kindAt(cell) == BLOCK || kindAt(cell) == PIT;
        }

        boolean refusesKind(int cell, int kind) {
            return (kind == BLOCK || kind == PIT)
                    && (Grid.holds(things(), cell) || isCheckpoint(cell));
        }

        boolean refusesCrate(int cell) {
            return isBlockOrPit(cell) || Grid.holds(things(), cell) || crateCount() >= MOST_CRATES;
        }

        boolean refusesCheckpoint(int cell) {
            return isBlockOrPit(cell) || isCheckpoint(cell) || checkpointCount >= checkpointCells.length;
        }

        boolean refusesRobot(int robot, int cell) {
            return isBlockOrPit(cell) || Grid.holds(crates, cell) || robot(1 - robot).cell == cell;
        }

        /** Changes a kind, if nothing refuses it; returns whether it did. So do the next three with what they add. */
        boolean giveKind(int cell, int kind) {
            if (refusesKind(cell, kind) || cell < 0 || cell >= kinds.length) {
                return false;
            }
            kinds[cell] = kind;
            belts = with(belts, cell, kind >= BELT_NORTH);
            pits = with(pits, cell, kind == PIT);
            return true;
        }

        private static long with(long cells, int cell, boolean isIn) {
            return isIn ? cells | Grid.setOf(cell) : cells & ~Grid.setOf(cell);
        }

        boolean layCrate(int cell) {
            if (refusesCrate(cell)) {
                return false;
            }
            crates |= Grid.setOf(cell);
            addedCrates++;
            return true;
        }

        boolean markCheckpoint(int cell) {
            if (refusesCheckpoint(cell) || checkpointCount < 0 || checkpointCount >= checkpointCells.length) {
                return false;
            }
            checkpointCells[checkpointCount] = cell;
            checkpointCount++;
            return true;
        }

        boolean placeRobot(int robot, int cell, int facing) {
            if (refusesRobot(robot, cell)) {
                return false;
            }
            robot(robot).cell = cell;
            robot(robot).facing = facing;
            return true;
        }

        void liftCrate(int cell) {
            crates &= ~Grid.setOf(cell);
            takenCrates++;
        }

        /** The lowest cell that is floor and has no thing; NONE if there is none. */
        int lowestFreeCell() {
            for (int cell = 0; cell < CELLS; cell++) {
                if (kindAt(cell) == FLOOR && !Grid.holds(things(), cell)) {
                    return cell;
                }
            }
            return NONE;
        }

        /** The cells, directions, next checkpoints and places of both robots as one number. */
        long robotsAsNumber() {
            return asNumber(first) << 32 | asNumber(second);
        }

        /** Each part has room in its bits: a cell in 6, a direction in 2, a next checkpoint in 3, a place in 4. */
        private static long asNumber(Robot robot) {
            return robot.cell | robot.facing << 6 | robot.next << 8 | robot.place << 11;
        }
    }

    /** What happens in a step. A way is a set of cells: the empty one if the robot is blocked or does not move. */
    private static final class Step {
        private Step() {
        }

        /** Makes steps; returns how many checkpoints are passed in them. */
        static int makeSome(Floor floor, int n) {
            int passed = 0;
            for (int made = 0; made < n; made++) {
                passed += makeOne(floor);
            }
            return passed;
        }

        static int makeOne(Floor floor) {
            // Both ways are told before either robot follows its instruction: they follow them at once.
            long firstWay = wayOf(floor, floor.first);
            long secondWay = wayOf(floor, floor.second);
            boolean clashing = clash(firstWay, secondWay);
            follow(floor, floor.first, floor.second, clashing ? 0L : firstWay);
            follow(floor, floor.second, floor.first, clashing ? 0L : secondWay);
            carryAll(floor, carriedThings(floor));
            loseCrates(floor);
            letFall(floor, floor.first);
            letFall(floor, floor.second);
            floor.stepsMade++;
            return passCheckpoint(floor, floor.first) + passCheckpoint(floor, floor.second);
        }

        static long wayOf(Floor floor, Robot robot) {
            int direction = robot.wantedDirection();
            return direction == NONE ? 0L : wayFrom(floor, robot.cell, direction);
        }

        /** The way of a robot that goes from a cell in a direction. */
        static long wayFrom(Floor floor, int cell, int direction) {
            long things = floor.things();
            long way = Grid.setOf(cell);
            int ahead = cell;
            for (int gone = 1; gone < Grid.SIDE; gone++) {
                ahead = Grid.beside(ahead, direction);
                if (floor.kindAt(ahead) == BLOCK) {
                    return 0L;
                }
                way |= Grid.setOf(ahead);
                if (!Grid.holds(things, ahead)) {
                    return way;
                }
            }
            return 0L;
        }

        /** The cells of the things that a robot pushes on its way. */
        static long rowOf(Floor floor, Robot robot, long way) {
            return way & floor.things() & ~Grid.setOf(robot.cell);
        }

        static boolean clash(long oneWay, long otherWay) {
            return (oneWay & otherWay) != 0L;
        }

        private static void follow(Floor floor, Robot robot, Robot other, long way) {
            int direction = robot.wantedDirection();
            if (direction == NONE) {
                robot.turn();
            } else if (way == 0L) {
                robot.bumps++;
            } else {
                long row = rowOf(floor, robot, way);
                pushRow(floor, other, row, direction);
                robot.cell = Grid.beside(robot.cell, direction);
                robot.moves++;
                robot.pushes += Long.bitCount(row);
            }
            robot.comeToNextPlace();
        }

        private static void pushRow(Floor floor, Robot other, long row, int direction) {
            floor.crates = floor.crates & ~row | Grid.allBeside(floor.crates & row, direction);
            if (Grid.holds(row, other.cell)) {
                other.cell = Grid.beside(other.cell, direction);
            }
        }

        /** The cell to which the belt on a cell leads; NONE without a belt, before a block, and at the edge. */
        private static int beltTarget(Floor floor, int cell) {
            int direction = floor.kindAt(cell) - BELT_NORTH;
            if (direction < 0) {
                return NONE;
            }
            int target = Grid.beside(cell, direction);
            return floor.kindAt(target) == BLOCK ? NONE : target;
        }

        /** The cells of all things that are carried. */
        private static long carriedThings(Floor floor) {
            long things = floor.things();
            long onBelts = things & floor.belts;
            long carried = carriedIfUnhindered(floor, onBelts, wantedTwice(floor, onBelts));
            // A round that takes no thing out is the last one.
            for (int round = 0; round < CELLS; round++) {
                long held = heldUp(floor, carried, things & ~carried);
                if (held == 0L) {
                    return carried;
                }
                carried &= ~held;
            }
            return carried;
        }

        /** The things on belts, but for those that would come to the same cell or change places. */
        private static long carriedIfUnhindered(Floor floor, long onBelts, long wantedTwice) {
            long carried = 0L;
            for (int cell = 0; onBelts != 0L && cell < CELLS; cell++) {
                if (Grid.holds(onBelts, cell)) {
                    int target = beltTarget(floor, cell);
                    boolean changingPlaces = Grid.holds(onBelts, target) && beltTarget(floor, target) == cell;
                    if (target != NONE && !Grid.holds(wantedTwice, target) && !changingPlaces) {
                        carried |= Grid.setOf(cell);
                    }
                }
            }
            return carried;
        }

        /** The cells to which two things or more want to be carried. */
        private static long wantedTwice(Floor floor, long onBelts) {
            long wanted = 0L;
            long twice = 0L;
            for (int cell = 0; onBelts != 0L && cell < CELLS; cell++) {
                if (Grid.holds(onBelts, cell)) {
                    long target = Grid.setOf(beltTarget(floor, cell));
                    twice |= wanted & target;
                    wanted |= target;
                }
            }
            return twice;
        }

        /** Those of the carried things that would come to a thing that is not carried. */
        private static long heldUp(Floor floor, long carried, long resting) {
            long held = 0L;
            for (int cell = 0; carried != 0L && cell < CELLS; cell++) {
                if (Grid.holds(carried, cell) && Grid.holds(resting, beltTarget(floor, cell))) {
                    held |= Grid.setOf(cell);
                }
            }
            return held;
        }

        private static void carryAll(Floor floor, long carried) {
            long crates = floor.crates & ~carried;
            for (int cell = 0; carried != 0L && cell < CELLS; cell++) {
                if (Grid.holds(floor.crates & carried, cell)) {
                    crates |= Grid.setOf(beltTarget(floor, cell));
                }
            }
            floor.crates = crates;
            carryRobot(floor, floor.first, carried);
            carryRobot(floor, floor.second, carried);
        }

        private static void carryRobot(Floor floor, Robot robot, long carried) {
            if (Grid.holds(carried, robot.cell)) {
                robot.cell = beltTarget(floor, robot.cell);
            }
        }

        private static void loseCrates(Floor floor) {
            long falling = floor.crates & floor.pits;
            floor.crates &= ~falling;
            floor.lostCrates += Long.bitCount(falling);
        }

        private static void letFall(Floor floor, Robot robot) {
            if (floor.kindAt(robot.cell) != PIT) {
                return;
            }
            robot.falls++;
            robot.facing = Grid.NORTH;
            int cell = floor.lowestFreeCell();
            if (cell != NONE) {
                robot.cell = cell;
            }
        }

        /** Returns how many checkpoints the robot passes: none or one. */
        private static int passCheckpoint(Floor floor, Robot robot) {
            if (floor.checkpointCell(robot.next) != robot.cell) {
                return 0;
            }
            robot.next++;
            return 1;
        }
    }

    /** Finds the fewest instructions to a cell. A stand is a cell and a direction: 4 * the cell + the direction. */
    private static final class Finder {
        private static final int STANDS = CELLS * DIRECTIONS;
        /** More instructions than any stand needs. */
        private static final int FAR = 1000000;

        private final int[] distances = new int[STANDS];
        private final int[] reached = new int[STANDS];

        static int standOf(int cell, int facing) {
            return cell * DIRECTIONS + facing;
        }

        int spread(Floor floor, int start, int target) {
            forgetDistances();
            setDistance(start, 0);
            reached[0] = start;
            int count = 1;
            for (int next = 0; next < count && next < reached.length; next++) {
                int from = reached[next];
                for (int instruction = FORWARD; instruction <= ROUND; instruction++) {
                    int to = standAfter(floor, from, instruction);
                    if (to != NONE && distance(to) == FAR && count < reached.length) {
                        setDistance(to, distance(from) + 1);
                        reached[count] = to;
                        count++;
                    }
                }
            }
            return leastDistance(target);
        }

        int sweep(Floor floor, int start, int target) {
            forgetDistances();
            setDistance(start, 0);
            boolean nearer = true;
            for (int round = 0; nearer && round <= STANDS; round++) {
                nearer = sweepOnce(floor);
            }
            return leastDistance(target);
        }

        /** Brings every stand as near as those from which it is reached tell; returns whether one came nearer. */
        private boolean sweepOnce(Floor floor) {
            boolean nearer = false;
            for (int from = 0; from < STANDS; from++) {
                for (int instruction = FORWARD; instruction <= ROUND; instruction++) {
                    int to = standAfter(floor, from, instruction);
                    if (to != NONE && distance(to) > distance(from) + 1) {
                        setDistance(to, distance(from) + 1);
                        nearer = true;
                    }
                }
            }
            return nearer;
        }

        /** The stand to which an instruction leads; NONE if it leads to a block or a pit or off the floor. */
        private static int standAfter(Floor floor, int stand, int instruction) {
            int cell = stand / DIRECTIONS;
            int facing = stand % DIRECTIONS;
            switch (instruction) {
                case FORWARD:
                    return standOn(floor, Grid.beside(cell, facing), facing);
                case BACK:
                    return standOn(floor, Grid.beside(cell, Grid.turned(facing, 2)), facing);
                case LEFT:
                    return standOf(cell, Grid.turned(facing, 3));
                case RIGHT:
                    return standOf(cell, Grid.turned(facing, 1));
                default:
                    return standOf(cell, Grid.turned(facing, 2));
            }
        }

        private static int standOn(Floor floor, int cell, int facing) {
            return floor.isBlockOrPit(cell) ? NONE : standOf(cell, facing);
        }

        private void forgetDistances() {
            for (int stand = 0; stand < distances.length; stand++) {
                distances[stand] = FAR;
            }
        }

        private int distance(int stand) {
            return stand >= 0 && stand < distances.length ? distances[stand] : FAR;
        }

        private void setDistance(int stand, int distance) {
            if (stand >= 0 && stand < distances.length) {
                distances[stand] = distance;
            }
        }

        /** The least distance of the stands on a cell; NONE if none of them is reached. */
        private int leastDistance(int cell) {
            int least = FAR;
            for (int facing = 0; facing < DIRECTIONS; facing++) {
                least = Math.min(least, distance(standOf(cell, facing)));
            }
            return least == FAR ? NONE : least;
        }
    }

    /** The text buffer, and how a floor is read from it. */
    private static final class Text {
        private static final int FIRST_ITEM = 1 + CELLS;

        private final char[] signs = new char[MOST_SIGNS];
        int length;

        void add(int sign) {
            if (length >= 0 && length < signs.length) {
                signs[length] = (char) sign;
                length++;
            }
        }

        /** The character at a place; NONE behind the end, so that nothing is allowed there. */
        private int signAt(int place) {
            return place >= 0 && place < length && place < signs.length ? signs[place] : NONE;
        }

        /** The index of the first character that is not allowed; NONE if the text is a floor. */
        int firstError() {
            if (signAt(0) != 'F') {
                return 0;
            }
            for (int at = 1; at < FIRST_ITEM; at++) {
                if (kindOfSign(signAt(at)) == NONE) {
                    return at;
                }
            }
            int at = FIRST_ITEM;
            for (int items = 0; items < MOST_SIGNS && at < length; items++) {
                int wrong = errorInItem(at);
                if (wrong != NONE) {
                    return wrong;
                }
                at += lengthOfItem(at);
            }
            return NONE;
        }

        private static int kindOfSign(int sign) {
            switch (sign) {
                case '.':
                    return FLOOR;
                case '#':
                    return BLOCK;
                case 'o':
                    return PIT;
                case 'n':
                    return BELT_NORTH;
                case 'e':
                    return BELT_EAST;
                case 's':
                    return BELT_SOUTH;
                case 'w':
                    return BELT_WEST;
                default:
                    return NONE;
            }
        }

        private int errorInItem(int at) {
            switch (signAt(at)) {
                case 'c':
                case 'p':
                    return errorInCell(at + 1);
                case 'r':
                    return errorInRobot(at);
                case 'i':
                    return errorInProgram(at);
                default:
                    return at;
            }
        }

        private int errorInCell(int at) {
            if (!isDigit(at, 3)) {
                return at;
            }
            int most = digitAt(at) == 3 ? 5 : 9;
            return isDigit(at + 1, most) ? NONE : at + 1;
        }

        private int errorInRobot(int at) {
            if (!isDigit(at + 1, ROBOTS - 1)) {
                return at + 1;
            }
            int wrong = errorInCell(at + 2);
            if (wrong != NONE) {
                return wrong;
            }
            return isDigit(at + 4, DIRECTIONS - 1) ? NONE : at + 4;
        }

        private int errorInProgram(int at) {
            if (!isDigit(at + 1, ROBOTS - 1)) {
                return at + 1;
            }
            int instructions = instructionsFrom(at + 2);
            int end = at + 2 + instructions;
            return instructions > 0 && signAt(end) == '.' ? NONE : end;
        }

        /** How many signs an item has that is without an error. */
        private int lengthOfItem(int at) {
            switch (signAt(at)) {
                case 'r':
                    return 5;
                case 'i':
                    return 3 + instructionsFrom(at + 2);
                default:
                    return 3;
            }
        }

        private int instructionsFrom(int at) {
            int count = 0;
            while (count < MOST_INSTRUCTIONS && isDigit(at + count, INSTRUCTIONS - 1)) {
                count++;
            }
            return count;
        }

        private boolean isDigit(int at, int most) {
            int sign = signAt(at);
            return sign >= '0' && sign <= '0' + most;
        }

        private int digitAt(int at) {
            return signAt(at) - '0';
        }

        private int cellAt(int at) {
            return 10 * digitAt(at) + digitAt(at + 1);
        }

        /** Gives a new floor what a text without an error says; returns how much is left out. */
        int giveTo(Floor floor) {
            int leftOut = 0;
            for (int cell = 0; cell < CELLS; cell++) {
                leftOut += floor.giveKind(cell, kindOfSign(signAt(1 + cell))) ? 0 : 1;
            }
            int at = FIRST_ITEM;
            for (int items = 0; items < MOST_SIGNS && at < length; items++) {
                leftOut += giveItem(floor, at);
                at += lengthOfItem(at);
            }
            return leftOut;
        }

        private int giveItem(Floor floor, int at) {
            switch (signAt(at)) {
                case 'c':
                    return floor.layCrate(cellAt(at + 1)) ? 0 : 1;
                case 'p':
                    return floor.markCheckpoint(cellAt(at + 1)) ? 0 : 1;
                case 'r':
                    return floor.placeRobot(digitAt(at + 1), cellAt(at + 2), digitAt(at + 4)) ? 0 : 1;
                default:
                    return teach(floor.robot(digitAt(at + 1)), at + 2);
            }
        }

        private int teach(Robot robot, int at) {
            int instructions = instructionsFrom(at);
            int leftOut = 0;
            for (int i = 0; i < instructions; i++) {
                leftOut += robot.learn(digitAt(at + i)) ? 0 : 1;
            }
            return leftOut;
        }
    }

    /** The states before the last actions, in a ring. */
    private static final class History {
        private final Floor[] states = new Floor[MOST_REMEMBERED];
        private int next;
        int count;

        History() {
            for (int i = 0; i < states.length; i++) {
                states[i] = new Floor();
            }
        }

        void remember(Floor floor) {
            Floor state = stateAt(next);
            if (state == null) {
                return;
            }
            state.copyFrom(floor);
            next = next + 1 < states.length ? next + 1 : 0;
            count = Math.min(count + 1, states.length);
        }

        void takeBack(Floor floor) {
            int last = next > 0 ? next - 1 : states.length - 1;
            Floor state = stateAt(last);
            if (state == null || count <= 0) {
                return;
            }
            floor.copyFrom(state);
            next = last;
            count--;
        }

        private Floor stateAt(int i) {
            return i >= 0 && i < states.length ? states[i] : null;
        }
    }

    /** A save slot. */
    private static final class Slot {
        final Floor floor = new Floor();
        boolean used;
    }
}
