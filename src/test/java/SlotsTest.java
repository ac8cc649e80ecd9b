/** Promises 42 and 43. */
final class SlotsTest {
    private static final String BUSY = "F..#e......s.o..wn....e......s......."
            + "c07c15p09p20r0133r1221i00030.i110.";

    public static void main(String[] args) {
        wrong();
        saveAndRestore();
        twoSlots();
        restoreForgets();
        saveIsNoAction();
        theTextStays();
        Check.end();
    }

    private static void wrong() {
        BeltFloor f = new BeltFloor();
        for (int slot : new int[] {-1, 2, Integer.MIN_VALUE, Integer.MAX_VALUE}) {
            Check.noCell("save " + slot, () -> f.save(slot));
            Check.noCell("restore " + slot, () -> f.restore(slot));
        }
        Check.badState("restore of nothing", () -> f.restore(0));
        f.save(1);
        f.addCrate(4);
        Check.badState("restore of the other one", () -> f.restore(0));
        Check.same("nothing changed", f.hasCrate(4), true);
        Check.same("nothing is forgotten", f.undo(), 0);
    }

    private static void saveAndRestore() {
        BeltFloor f = Floors.of(BUSY);
        f.step(7);
        Check.same("save", f.save(0), 7);
        String saved = Floors.picture(f);
        f.step(5);
        f.setKind(0, 4);
        f.addCheckpoint(0);
        f.wipe(1);
        f.write(0, 4);
        f.putRobot(1, 34, 2);
        Check.same("the slot is a copy", Floors.picture(f).equals(saved), false);
        Check.same("restore", f.restore(0), 7);
        Check.same("as it was", Floors.picture(f).equals(saved), true);
        f.step(3);
        f.addCrate(34);
        Check.same("the slot keeps it", f.restore(0), 7);
        Check.same("as it was, again", Floors.picture(f).equals(saved), true);
        f.step(2);
        Check.same("save over it", f.save(0), 9);
        f.step(1);
        Check.same("restore", f.restore(0), 9);
    }

    private static void twoSlots() {
        BeltFloor f = new BeltFloor();
        f.step(1);
        Check.same("save 0", f.save(0), 1);
        f.step(1);
        Check.same("save 1", f.save(1), 2);
        f.step(1);
        Check.same("restore 0", f.restore(0), 1);
        Check.same("steps", f.steps(), 1);
        Check.same("restore 1", f.restore(1), 2);
        Check.same("steps", f.steps(), 2);
        Check.same("restore 0", f.restore(0), 1);
    }

    private static void restoreForgets() {
        BeltFloor f = new BeltFloor();
        f.addCrate(0);
        f.addCrate(1);
        f.save(0);
        f.addCrate(2);
        f.restore(0);
        Check.same("crates", f.cratesByCells(), 2);
        Check.badState("undo behind restore", () -> f.undo());
        f.addCrate(3);
        Check.same("undo", f.undo(), 0);
        Check.same("crates", f.cratesByCells(), 2);
    }

    private static void saveIsNoAction() {
        BeltFloor f = new BeltFloor();
        f.addCrate(0);
        f.save(0);
        f.addCrate(1);
        Check.same("undo", f.undo(), 1);
        f.save(1);
        Check.same("undo", f.undo(), 0);
        Check.same("undo does not touch slots", f.restore(0), 0);
        Check.same("the crate is there again", f.hasCrate(0), true);
    }

    private static void theTextStays() {
        BeltFloor f = new BeltFloor();
        f.save(0);
        Floors.type(f, "Fx");
        f.restore(0);
        Check.same("length", f.clearText(), 2);
    }
}
