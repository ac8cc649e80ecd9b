import java.util.List;

/** The sentences of the promises 42 and 43. */
final class SlotSentences {
    private SlotSentences() {
    }

    static void all() {
        Doc.promise(42, "Stores the present state in a save slot.", SlotSentences::stores);
        Doc.promise(42, "`slot`: 0 or 1", SlotSentences::savesInBoth);
        Doc.promise(42, "Returns the steps so far.", SlotSentences::stepsSoFar);
        Doc.promise(42, "Throws `IndexOutOfBoundsException` if there is no such save slot", SlotSentences::noSuchSaveSlot);
        Doc.promise(43, "Replaces the state by the one in a save slot,", SlotSentences::replaces);
        Doc.promise(43, "and forgets all remembered states.", SlotSentences::forgets);
        Doc.promise(43, "The save slot keeps it.", SlotSentences::slotKeepsIt);
        Doc.promise(43, "`slot`: 0 or 1", SlotSentences::restoresBoth);
        Doc.promise(43, "Returns the steps then.", SlotSentences::stepsThen);
        Doc.promise(43, "Throws `IndexOutOfBoundsException` if there is no such save slot",
                SlotSentences::noSuchSlotToRestore);
        Doc.promise(43, "Throws `IllegalStateException` if nothing has been saved in it since the last load",
                SlotSentences::nothingSaved);
    }

    /** Changes of all that a state consists of. */
    private static void change(BeltFloor f) {
        f.step(5);
        Check.outcome(() -> f.setKind(0, 4));
        Check.outcome(() -> f.setKind(34, 3));
        Check.outcome(() -> f.addCrate(34));
        Check.outcome(() -> f.addCheckpoint(34));
        Check.outcome(() -> f.write(0, 4));
        f.wipe(1);
        f.step(3);
        Check.outcome(() -> f.putRobot(1, 33, 2));
    }

    private static void stores() {
        for (Whole.Script script : Whole.SCRIPTS) {
            String due = Floors.picture(Whole.after(script));
            for (int slot = 0; slot < 2; slot++) {
                BeltFloor f = Whole.after(script);
                f.save(slot);
                change(f);
                f.restore(slot);
                Check.same("slot " + slot, Floors.picture(f), due);
            }
        }
        // It is no action, and changes nothing else.
        Whole.keeps("save 0", f -> f.save(0), Whole.STATE);
        Whole.keeps("save 1", f -> f.save(1), Whole.STATE);
        Whole.keeps("save 0", f -> f.save(0), Whole.TEXT);
        Whole.keeps("save 0 and slot 1", f -> f.save(0), List.of(Whole.SLOT_1));
        Whole.keeps("save 1 and slot 0", f -> f.save(1), List.of(Whole.SLOT_0));
    }

    private static void savesInBoth() {
        BeltFloor f = new BeltFloor();
        f.step(1);
        f.save(0);
        f.step(1);
        f.save(1);
        f.step(1);
        Check.same("slot 0", f.restore(0), 1);
        Check.same("slot 1", f.restore(1), 2);
        f.step(5);
        f.save(0);
        Check.same("slot 1 is another one", f.restore(1), 2);
        Check.same("slot 0 has the newer one", f.restore(0), 7);
    }

    private static void stepsSoFar() {
        BeltFloor f = new BeltFloor();
        Check.same("none", f.save(0), 0);
        f.step(1);
        Check.same("one", f.save(0), 1);
        f.step(40);
        Check.same("41", f.save(1), 41);
        f.undo();
        Check.same("one again", f.save(1), 1);
    }

    private static void noSuchSaveSlot() {
        for (int slot : new int[] {-1, 2, 3, 256, Integer.MIN_VALUE, Integer.MAX_VALUE}) {
            Whole.refusesIndex("save " + slot, f -> f.save(slot));
        }
    }

    private static void replaces() {
        for (Whole.Script script : Whole.SCRIPTS) {
            Whole.Script saved = f -> {
                script.play(f);
                f.save(1);
                change(f);
                f.restore(1);
            };
            String due = Floors.picture(Whole.after(script));
            Check.same("the state", Floors.picture(Whole.after(saved)), due);
            BeltFloor f = Whole.after(saved);
            BeltFloor g = Whole.after(script);
            f.step(7);
            g.step(7);
            Check.same("what comes of it", Floors.picture(f), Floors.picture(g));
            Whole.keeps("the text", script, h -> {
                h.save(1);
                return h.restore(1);
            }, Whole.TEXT);
            Whole.keeps("the other slot", script, h -> {
                h.save(1);
                return h.restore(1);
            }, List.of(Whole.SLOT_0));
        }
    }

    private static void forgets() {
        BeltFloor f = new BeltFloor();
        f.addCrate(0);
        f.addCrate(1);
        f.save(0);
        f.addCrate(2);
        f.restore(0);
        Check.badState("undo behind restore", f::undo);
        Check.same("crates", Floors.look(f), "30n 35n c0 c1");
        f.addCrate(3);
        Check.same("undo", f.undo(), 0);
        Check.same("crates", Floors.look(f), "30n 35n c0 c1");
        Check.badState("undo", f::undo);
        BeltFloor g = Whole.after(Whole.FULL);
        g.restore(0);
        Check.badState("undo of fourteen", g::undo);
        for (int n = 1; n <= 20; n++) {
            g.step(1);
        }
        Check.same("fourteen again", g.undo(), 13);
    }

    private static void slotKeepsIt() {
        BeltFloor f = Whole.after(Whole.BUSY);
        f.save(0);
        String due = Floors.picture(f);
        for (int times = 0; times < 2; times++) {
            f.restore(0);
            change(f);
        }
        f.restore(0);
        Check.same("restored three times", Floors.picture(f), due);
        // undo of what comes behind it leaves the slot alone.
        BeltFloor g = new BeltFloor();
        g.save(0);
        g.restore(0);
        g.step(3);
        g.undo();
        g.step(2);
        Check.same("still the first one", g.restore(0), 0);
    }

    private static void restoresBoth() {
        for (int slot = 0; slot < 2; slot++) {
            BeltFloor f = new BeltFloor();
            f.addCrate(slot);
            f.save(slot);
            f.takeCrate(slot);
            f.save(1 - slot);
            f.restore(slot);
            Check.same("slot " + slot, f.hasCrate(slot), true);
            f.restore(1 - slot);
            Check.same("slot " + (1 - slot), f.hasCrate(slot), false);
        }
    }

    private static void stepsThen() {
        BeltFloor f = new BeltFloor();
        f.step(7);
        f.save(0);
        f.step(40);
        f.save(1);
        Check.same("slot 0", f.restore(0), 7);
        Check.same("steps", f.steps(), 7);
        Check.same("slot 1", f.restore(1), 47);
        Check.same("steps", f.steps(), 47);
    }

    private static void noSuchSlotToRestore() {
        for (int slot : new int[] {-1, 2, 3, 256, Integer.MIN_VALUE, Integer.MAX_VALUE}) {
            Whole.refusesIndex("restore " + slot, f -> f.restore(slot));
        }
    }

    private static void nothingSaved() {
        for (int slot = 0; slot < 2; slot++) {
            int s = slot;
            Whole.refusesState("of a new object", Whole.NEW, f -> f.restore(s));
            Whole.refusesState("with the other one saved", f -> {
                f.addCrate(3);
                f.save(1 - s);
                f.step(2);
            }, f -> f.restore(s));
            Whole.refusesState("behind load", f -> {
                f.save(0);
                f.save(1);
                Floors.type(f, Floors.EMPTY + "c07");
                f.load();
                f.step(2);
            }, f -> f.restore(s));
        }
        BeltFloor f = new BeltFloor();
        f.save(0);
        Floors.type(f, "F");
        Check.badState("a load that is refused", f::load);
        Check.same("leaves the slot", f.restore(0), 0);
        Floors.type(f, Floors.EMPTY.substring(1));
        f.load();
        f.save(0);
        Check.same("saved since the load", f.restore(0), 0);
    }
}
