/** Makes floors for the tests. */
final class Floors {
    static final String EMPTY = "F....................................";
    /** Six rows of floor. */
    static final String FREE = "...... ...... ...... ...... ...... ......";
    static final int[] WRONG_CELLS = {-1, 36, 37, 41, 64, 99, Integer.MIN_VALUE, Integer.MAX_VALUE};
    static final int[] WRONG_ROBOTS = {-1, 2, 3, 30, Integer.MIN_VALUE, Integer.MAX_VALUE};

    private Floors() {
    }

    /** Appends a text behind what is there already. */
    static void type(BeltFloor floor, String text) {
        for (int i = 0; i < text.length(); i++) {
            floor.append(text.charAt(i));
        }
    }

    /** A new object into which a text has been loaded without leaving anything out. */
    static BeltFloor of(String text) {
        BeltFloor floor = new BeltFloor();
        type(floor, text);
        Check.same("load() of " + text, floor.load(), 0);
        return floor;
    }

    /** A floor of six rows, and then of the items. */
    static BeltFloor of(String rows, String items) {
        return of("F" + rows.replace(" ", "") + items);
    }

    /** Puts both robots, whatever cells they are on; these must be free but for the robots. */
    static void putRobots(BeltFloor f, int cell0, int facing0, int cell1, int facing1) {
        int aside = 0;
        while (aside == cell0 || aside == cell1 || f.kindOf(aside) != 0 || f.hasCrate(aside)
                || aside == f.cellOf(0) || aside == f.cellOf(1)) {
            aside++;
        }
        f.putRobot(1, aside, 0);
        f.putRobot(0, cell0, facing0);
        f.putRobot(1, cell1, facing1);
    }

    /** The cell beside one in a direction, told by rows and columns; -1 behind the edge. */
    static int beside(int cell, int direction) {
        int row = cell / 6 + new int[] {-1, 0, 1, 0}[direction];
        int column = cell % 6 + new int[] {0, 1, 0, -1}[direction];
        return row < 0 || row > 5 || column < 0 || column > 5 ? -1 : 6 * row + column;
    }

    /** The cells and directions of the robots, and the cells of the crates, as one text. */
    static String look(BeltFloor f) {
        StringBuilder s = new StringBuilder();
        for (int robot = 0; robot < 2; robot++) {
            s.append(f.cellOf(robot)).append("nesw".charAt(f.facingOf(robot))).append(' ');
        }
        for (int cell = 0; cell < 36; cell++) {
            s.append(f.hasCrate(cell) ? "c" + cell + " " : "");
        }
        return s.toString().trim();
    }

    /** How often both robots moved, bumped, pushed and fell. */
    static String counts(BeltFloor f) {
        StringBuilder s = new StringBuilder();
        for (int robot = 0; robot < 2; robot++) {
            s.append(f.movesOf(robot)).append(' ').append(f.bumpsOf(robot)).append(' ');
            s.append(f.pushesOf(robot)).append(' ').append(f.fallsOf(robot)).append(robot == 0 ? ", " : "");
        }
        return s.toString();
    }

    /** All that the object answers about its state, as a text. */
    static String picture(BeltFloor f) {
        StringBuilder s = new StringBuilder();
        for (int cell = 0; cell < 36; cell++) {
            s.append(f.kindOf(cell)).append(f.hasCrate(cell) ? "c" : "");
        }
        s.append(" crates ").append(f.cratesByCells()).append(' ').append(f.cratesByAccounts());
        s.append(" lost ").append(f.lost()).append(" steps ").append(f.steps()).append(" checkpoints");
        int checkpoints = f.checkpoints();
        for (int checkpoint = 1; checkpoint <= checkpoints; checkpoint++) {
            s.append(' ').append(f.cellOfCheckpoint(checkpoint));
        }
        for (int robot = 0; robot < 2; robot++) {
            s.append(" robot ").append(f.cellOf(robot)).append(' ').append(f.facingOf(robot));
            s.append(' ').append(f.nextOf(robot)).append(' ').append(f.isHome(robot));
            s.append(' ').append(f.movesOf(robot)).append(' ').append(f.bumpsOf(robot));
            s.append(' ').append(f.pushesOf(robot)).append(' ').append(f.fallsOf(robot));
            s.append(" at ").append(f.placeOf(robot)).append(" of ");
            int length = f.lengthOf(robot);
            for (int place = 0; place < length; place++) {
                s.append(f.instructionAt(robot, place));
            }
        }
        return s.toString();
    }
}
