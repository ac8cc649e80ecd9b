import java.util.ArrayList;
import java.util.List;

/**
 * Compares whole objects: what they tell at once, and the text, the remembered states and the save slots, which only
 * come to light by calls that change them. So each look is taken at an object of its own, made by the same script.
 */
final class Whole {
    interface Script {
        void play(BeltFloor f);
    }

    interface Call {
        long on(BeltFloor f);
    }

    interface Probe {
        String look(BeltFloor f);
    }

    static final Script NEW = f -> { };
    /** Some actions, one save slot, a text that is a floor. */
    static final Script FEW = f -> {
        f.setKind(8, 4);
        f.addCrate(8);
        f.save(1);
        f.write(0, 0);
        Floors.type(f, Floors.EMPTY + "c07");
    };
    /** A floor of all kinds in the middle of its steps, both save slots, a text that is none. */
    static final Script BUSY = f -> {
        Floors.type(f, "F..#e......s.o..wn....e......s......." + "c07c15p09p20r0133r1221i00030.i110.");
        f.load();
        f.step(1);
        f.takeCrate(14);
        f.save(0);
        for (int i = 0; i < 14; i++) {
            f.step(1);
        }
        f.save(1);
        f.addCheckpoint(33);
        f.append('x');
    };
    /** As many crates, checkpoints, instructions, remembered states and characters as there can be. */
    static final Script FULL = f -> {
        Floors.type(f, fullText());
        int[] crates = {1, 2, 3, 4, 13, 14, 20, 26};
        int[] checkpoints = {0, 7, 21, 28};
        for (int cell : crates) {
            f.addCrate(cell);
        }
        for (int cell : checkpoints) {
            f.addCheckpoint(cell);
        }
        f.save(0);
        for (int i = 0; i < 10; i++) {
            f.write(0, i % 6);
            f.write(1, (i + 3) % 6);
        }
        f.setKind(12, 2);
        f.setKind(6, 1);
        f.step(3);
        f.save(1);
    };
    static final List<Script> SCRIPTS = List.of(NEW, FEW, BUSY, FULL);

    /** What shows the state and the remembered ones. */
    static final List<Probe> STATE = new ArrayList<>();
    static final List<Probe> TEXT = List.of(
            f -> Check.outcome(f::errorPosition) + Check.outcome(() -> f.append('c')) + Check.outcome(f::errorPosition)
                    + Check.outcome(f::clearText),
            f -> Check.outcome(f::load) + Floors.picture(f));
    static final Probe SLOT_0 = f -> Check.outcome(() -> f.restore(0)) + Floors.picture(f);
    static final Probe SLOT_1 = f -> Check.outcome(() -> f.restore(1)) + Floors.picture(f);
    static final List<Probe> SLOTS = List.of(SLOT_0, SLOT_1);
    static final List<Probe> ALL = new ArrayList<>();

    static {
        STATE.add(Floors::picture);
        STATE.add(Whole::future);
        for (int times = 1; times <= 15; times++) {
            int undone = times;
            STATE.add(f -> undone(f, undone));
        }
        ALL.addAll(STATE);
        ALL.addAll(TEXT);
        ALL.addAll(SLOTS);
    }

    private Whole() {
    }

    /** A text of 120 characters that is a floor. */
    static String fullText() {
        StringBuilder s = new StringBuilder(Floors.EMPTY).append("r0071");
        while (s.length() < 120) {
            s.append("c00");
        }
        return s.toString();
    }

    static BeltFloor after(Script script) {
        BeltFloor f = new BeltFloor();
        script.play(f);
        return f;
    }

    private static String future(BeltFloor f) {
        return f.wouldClash() + " " + f.rowAhead(0) + " " + f.rowAhead(1) + " " + f.passesIn(0) + " " + f.passesIn(1)
                + " " + f.loopByWaiting() + " " + f.loopByKeeping() + " " + f.fewestBySpreading(0, 17)
                + " " + f.fewestBySweeping(1, 5) + " " + f.simulate(7L, 60);
    }

    private static String undone(BeltFloor f, int times) {
        StringBuilder s = new StringBuilder();
        for (int i = 0; i < times; i++) {
            s.append(Check.outcome(f::undo)).append(' ');
        }
        return s + Floors.picture(f);
    }

    /** The call throws the exception, and nothing has changed. */
    static void refuses(String what, Script script, Call call, String exception) {
        BeltFloor f = after(script);
        Check.throwing(what, () -> call.on(f), exception);
        keeps(what, script, call, ALL);
    }

    /** The same, whatever the object has been through. */
    static void refuses(String what, Call call, String exception) {
        for (Script script : SCRIPTS) {
            refuses(what + " behind script " + SCRIPTS.indexOf(script), script, call, exception);
        }
    }

    static void refusesIndex(String what, Call call) {
        refuses(what, call, "IndexOutOfBoundsException");
    }

    static void refusesArgument(String what, Call call) {
        refuses(what, call, "IllegalArgumentException");
    }

    static void refusesState(String what, Script script, Call call) {
        refuses(what, script, call, "IllegalStateException");
    }

    /** The call changes nothing of what the probes look at. */
    static void keeps(String what, Script script, Call call, List<Probe> probes) {
        for (Probe probe : probes) {
            BeltFloor one = after(script);
            Check.outcome(() -> call.on(one));
            Check.same(what + ": look " + ALL.indexOf(probe), probe.look(one), probe.look(after(script)));
        }
    }

    /** The same, whatever the object has been through. */
    static void keeps(String what, Call call, List<Probe> probes) {
        for (Script script : SCRIPTS) {
            keeps(what + " behind script " + SCRIPTS.indexOf(script), script, call, probes);
        }
    }
}
