/** Makes floors for the tests. */
final class Floors {
    static final String EMPTY = "F....................................";

    private Floors() {
    }

    /** Appends a text behind what is there already. */
    static void type(BeltFloor floor, String text) {
        for (int i = 0; i < text.length(); i++) {
            floor.append(text.charAt(i));
        }
    }

    /** A new object into which a text has been loaded without leaving anything out. */
    static BeltFloor of(String text) {
        BeltFloor floor = new BeltFloor();
        type(floor, text);
        Check.same("load() of " + text, floor.load(), 0);
        return floor;
    }

    /** A floor of six rows, and then of the items. */
    static BeltFloor of(String rows, String items) {
        return of("F" + rows.replace(" ", "") + items);
    }

    /** All that the object answers about its state, as a text. */
    static String picture(BeltFloor f) {
        StringBuilder s = new StringBuilder();
        for (int cell = 0; cell < 36; cell++) {
            s.append(f.kindOf(cell)).append(f.hasCrate(cell) ? "c" : "");
        }
        s.append(" crates ").append(f.cratesByCells()).append(' ').append(f.cratesByAccounts());
        s.append(" lost ").append(f.lost()).append(" steps ").append(f.steps()).append(" checkpoints");
        for (int checkpoint = 1; checkpoint <= f.checkpoints(); checkpoint++) {
            s.append(' ').append(f.cellOfCheckpoint(checkpoint));
        }
        for (int robot = 0; robot < 2; robot++) {
            s.append(" robot ").append(f.cellOf(robot)).append(' ').append(f.facingOf(robot));
            s.append(' ').append(f.nextOf(robot)).append(' ').append(f.isHome(robot));
            s.append(' ').append(f.movesOf(robot)).append(' ').append(f.bumpsOf(robot));
            s.append(' ').append(f.pushesOf(robot)).append(' ').append(f.fallsOf(robot));
            s.append(" at ").append(f.placeOf(robot)).append(" of ");
            for (int place = 0; place < f.lengthOf(robot); place++) {
                s.append(f.instructionAt(robot, place));
            }
        }
        return s.toString();
    }
}
