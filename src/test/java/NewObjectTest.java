/** Promise 1. */
final class NewObjectTest {
    public static void main(String[] args) {
        BeltFloor f = new BeltFloor();
        Check.same("NONE", BeltFloor.NONE, -1);
        for (int cell = 0; cell < 36; cell++) {
            Check.same("kindOf " + cell, f.kindOf(cell), 0);
            Check.same("hasCrate " + cell, f.hasCrate(cell), false);
        }
        Check.same("cratesByCells", f.cratesByCells(), 0);
        Check.same("cratesByAccounts", f.cratesByAccounts(), 0);
        Check.same("lost", f.lost(), 0);
        Check.same("checkpoints", f.checkpoints(), 0);
        Check.same("steps", f.steps(), 0);
        Check.same("cell of 0", f.cellOf(0), 30);
        Check.same("cell of 1", f.cellOf(1), 35);
        for (int robot = 0; robot < 2; robot++) {
            Check.same("facing", f.facingOf(robot), 0);
            Check.same("next", f.nextOf(robot), 1);
            Check.same("home", f.isHome(robot), false);
            Check.same("moves", f.movesOf(robot), 0);
            Check.same("bumps", f.bumpsOf(robot), 0);
            Check.same("pushes", f.pushesOf(robot), 0);
            Check.same("falls", f.fallsOf(robot), 0);
            Check.same("length", f.lengthOf(robot), 0);
            Check.same("place", f.placeOf(robot), 0);
        }
        Check.same("the text is empty", f.clearText(), 0);
        Check.badState("undo", () -> f.undo());
        Check.badState("restore 0", () -> f.restore(0));
        Check.badState("restore 1", () -> f.restore(1));
        Check.end();
    }
}
