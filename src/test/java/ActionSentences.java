import java.util.List;

/** The sentences of ACTIONS AND UNDO, and of the promises 31 to 33. */
final class ActionSentences {
    private static final String ABOUT = "ACTIONS AND UNDO";

    private ActionSentences() {
    }

    static void all() {
        Doc.says(ABOUT, "The methods in the section \"actions\" change the state,", ActionSentences::changeTheState);
        Doc.says(ABOUT, "which consists of everything but the text and the save slots.", ActionSentences::textAndSlots);
        Doc.says(ABOUT, "Each call of one of them that does not throw an exception is an action,",
                ActionSentences::eachIsAnAction);
        Doc.says(ABOUT, "Each call of one of them that does not throw an exception is an action,",
                ActionSentences::nothingElseIsAnAction);
        Doc.says(ABOUT, "also if nothing becomes different", ActionSentences::withoutADifference);
        Doc.says(ABOUT, "(undo is none).", ActionSentences::undoIsNone);
        Doc.says(ABOUT, "Before each action, the state is remembered.", ActionSentences::remembered);
        Doc.says(ABOUT, "At most 14 states are remembered;", ActionSentences::atMost14);
        Doc.says(ABOUT, "when one more is remembered, the oldest one is forgotten.", ActionSentences::oldestForgotten);
        Doc.says(ABOUT, "load and restore are not actions.", ActionSentences::loadAndRestore);

        Doc.promise(31, "Empties a program.", ActionSentences::wipes);
        Doc.promise(31, "`robot`: 0 or 1", ActionSentences::wipesBoth);
        Doc.promise(31, "Returns how many instructions it had.", ActionSentences::wipeReturns);
        Doc.promise(31, "Throws `IndexOutOfBoundsException` if there is no such robot", ActionSentences::wipesNoOther);

        Doc.promise(32, "Makes steps.", ActionSentences::steps);
        Doc.promise(32, "`n`: 1 to 40", ActionSentences::oneToForty);
        Doc.promise(32, "Returns how many checkpoints are passed in them, by both robots.", ActionSentences::passed);
        Doc.promise(32, "Throws `IllegalArgumentException` if n is out of range", ActionSentences::stepsOutOfRange);

        Doc.promise(33, "Takes back the last action that is remembered.", ActionSentences::takesBack);
        Doc.promise(33, "Returns how many states are still remembered.", ActionSentences::stillRemembered);
        Doc.promise(33, "Throws `IllegalStateException` if none is remembered", ActionSentences::noneRemembered);
    }

    /** A call of each action that is not refused behind the start below, and makes a difference there. */
    private static final List<Whole.Call> ACTIONS = List.of(
            f -> f.setKind(9, 5), f -> f.addCrate(1), f -> f.takeCrate(7), f -> f.addCheckpoint(3),
            f -> f.putRobot(1, 33, 3), f -> f.write(1, 0), f -> f.wipe(0), f -> f.step(2));

    private static void start(BeltFloor f) {
        Floors.type(f, Floors.EMPTY + "c07i003.p24p18");
        f.load();
    }

    private static BeltFloor started() {
        return Whole.after(ActionSentences::start);
    }

    private static void changeTheState() {
        String before = Floors.picture(started());
        for (Whole.Call action : ACTIONS) {
            BeltFloor f = started();
            action.on(f);
            int i = ACTIONS.indexOf(action);
            Check.same("action " + i + " makes a difference", Floors.picture(f).equals(before), false);
            Check.same("undo of action " + i, f.undo(), 0);
            Check.same("as before action " + i, Floors.picture(f), before);
        }
    }

    private static void textAndSlots() {
        for (Whole.Call action : ACTIONS) {
            int i = ACTIONS.indexOf(action);
            Whole.Script script = f -> {
                start(f);
                f.save(0);
                f.step(1);
                f.save(1);
            };
            Whole.keeps("text at action " + i, script, action, Whole.TEXT);
            Whole.keeps("slots at action " + i, script, action, Whole.SLOTS);
            Whole.Script acted = f -> {
                script.play(f);
                action.on(f);
            };
            Whole.keeps("text at undo of action " + i, acted, BeltFloor::undo, Whole.TEXT);
            Whole.keeps("slots at undo of action " + i, acted, BeltFloor::undo, Whole.SLOTS);
        }
    }

    private static void eachIsAnAction() {
        BeltFloor f = started();
        for (Whole.Call action : ACTIONS) {
            action.on(f);
        }
        for (int left = ACTIONS.size() - 1; left >= 0; left--) {
            Check.same("undo", f.undo(), left);
        }
        Check.badState("no more", f::undo);
        Check.same("as at the start", Floors.picture(f), Floors.picture(started()));
    }

    private static void nothingElseIsAnAction() {
        BeltFloor f = started();
        f.addCrate(0);
        f.append('x');
        f.errorPosition();
        f.clearText();
        f.kindOf(0);
        f.hasCrate(0);
        f.instructionAt(0, 0);
        f.rowAhead(0);
        f.wouldClash();
        f.passesIn(0);
        f.loopByWaiting();
        f.loopByKeeping();
        f.fewestBySpreading(0, 3);
        f.fewestBySweeping(0, 3);
        f.simulate(5L, 60);
        f.save(0);
        Check.badState("a refused action", () -> f.addCrate(0));
        Check.badArgument("a refused action", () -> f.step(0));
        Check.noCell("a refused action", () -> f.wipe(2));
        Check.same("undo of the only action", f.undo(), 0);
        Check.same("it is taken back", f.hasCrate(0), false);
    }

    private static void withoutADifference() {
        List<Whole.Call> actions = List.of(f -> f.setKind(3, 0), f -> f.putRobot(0, 30, 0), f -> f.wipe(0),
                f -> f.wipe(1), f -> f.putRobot(1, 35, 0), f -> f.setKind(0, 0));
        String fresh = Floors.picture(new BeltFloor());
        for (Whole.Call action : actions) {
            BeltFloor f = new BeltFloor();
            action.on(f);
            Check.same("no difference", Floors.picture(f), fresh);
            Check.same("undo all the same", f.undo(), 0);
            Check.badState("once", f::undo);
        }
        BeltFloor f = new BeltFloor();
        for (Whole.Call action : actions) {
            action.on(f);
        }
        Check.same("each by itself", f.undo(), actions.size() - 1);
        BeltFloor g = new BeltFloor();
        g.addCrate(0);
        for (int i = 0; i < 14; i++) {
            g.wipe(0);
        }
        for (int i = 0; i < 14; i++) {
            g.undo();
        }
        Check.badState("what came before is forgotten", g::undo);
        Check.same("the crate stays", g.hasCrate(0), true);
    }

    /** undo takes back, and cannot be taken back itself. */
    private static void undoIsNone() {
        BeltFloor f = new BeltFloor();
        f.addCrate(0);
        f.addCrate(1);
        Check.same("undo", f.undo(), 1);
        Check.same("undo again", f.undo(), 0);
        Check.same("both are taken back", Floors.look(f), "30n 35n");
        Check.badState("nothing else is remembered", f::undo);
        f.addCrate(2);
        Check.same("undo of what came later", f.undo(), 0);
        Check.same("taken back", Floors.look(f), "30n 35n");
    }

    private static void remembered() {
        for (int n = 0; n < ACTIONS.size(); n++) {
            BeltFloor f = started();
            for (Whole.Call action : ACTIONS.subList(0, n)) {
                action.on(f);
            }
            String before = Floors.picture(f);
            ACTIONS.get(n).on(f);
            Check.same("undo of action " + n, f.undo(), n);
            Check.same("the state before action " + n, Floors.picture(f), before);
        }
        // A step of many steps is one action.
        BeltFloor g = started();
        g.step(1);
        g.step(40);
        g.undo();
        Check.same("forty steps at once", g.steps(), 1);
    }

    private static void atMost14() {
        for (int actions = 0; actions <= 32; actions++) {
            BeltFloor f = new BeltFloor();
            for (int i = 0; i < actions; i++) {
                f.step(1);
            }
            int due = Math.min(actions, 14);
            for (int left = due - 1; left >= 0; left--) {
                Check.same("undo behind " + actions, f.undo(), left);
            }
            Check.badState("one more undo behind " + actions, f::undo);
            Check.same("steps", f.steps(), actions - due);
        }
    }

    private static void oldestForgotten() {
        BeltFloor f = new BeltFloor();
        for (int i = 0; i < 14; i++) {
            f.addCheckpoint(0);
            f.undo();
            f.setKind(i, 3);
        }
        f.setKind(14, 3);
        for (int i = 14; i >= 1; i--) {
            Check.same("undo", f.undo(), i - 1);
            Check.same("taken back", f.kindOf(i), 0);
            Check.same("not yet", f.kindOf(i - 1), 3);
        }
        Check.badState("the first one is forgotten", f::undo);
        Check.same("it stays", f.kindOf(0), 3);
        // Room that undo made is used again before another one is forgotten.
        BeltFloor g = new BeltFloor();
        for (int i = 0; i < 20; i++) {
            g.step(1);
        }
        g.undo();
        g.undo();
        g.step(2);
        g.step(3);
        Check.same("undo", g.undo(), 13);
        Check.same("steps", g.steps(), 20);
        for (int left = 12; left >= 0; left--) {
            Check.same("undo", g.undo(), left);
        }
        Check.same("steps", g.steps(), 6);
        Check.badState("undo", g::undo);
    }

    private static void loadAndRestore() {
        BeltFloor f = started();
        Check.badState("undo behind load", f::undo);
        f.addCrate(0);
        f.save(0);
        f.addCrate(1);
        f.restore(0);
        Check.badState("undo behind restore", f::undo);
        Check.same("it stays restored", Floors.look(f), "30n 35n c0 c7");
        f.addCrate(2);
        Check.same("undo of a later action", f.undo(), 0);
        Check.same("back to what was restored", Floors.look(f), "30n 35n c0 c7");
    }

    // ---- wipe

    private static void wipes() {
        BeltFloor f = Floors.of(Floors.EMPTY + "i0032.i155.");
        f.step(2);
        f.wipe(0);
        Check.same("length", f.lengthOf(0), 0);
        Check.same("place", f.placeOf(0), 0);
        Check.noCell("no instruction", () -> f.instructionAt(0, 0));
        Check.same("the other one's length", f.lengthOf(1), 2);
        Check.same("the robot stays", Floors.look(f), "24e 35n");
        f.step(1);
        Check.same("it waits", Floors.look(f), "24e 35n");
        Check.same("the other one's place", f.placeOf(1), 1);
        for (int n = 1; n <= 10; n++) {
            Check.same("there is room for ten", f.write(0, 5), n);
        }
    }

    private static void wipesBoth() {
        for (int robot = 0; robot < 2; robot++) {
            BeltFloor f = Floors.of(Floors.EMPTY + "i0432.i155.");
            f.step(1);
            f.wipe(robot);
            Check.same("length of " + robot, f.lengthOf(robot), 0);
            Check.same("length of the other one", f.lengthOf(1 - robot), robot == 0 ? 2 : 3);
            Check.same("place of " + robot, f.placeOf(robot), 0);
            Check.same("place of the other one", f.placeOf(1 - robot), 1);
        }
    }

    private static void wipeReturns() {
        for (int length = 0; length <= 10; length++) {
            BeltFloor f = new BeltFloor();
            for (int i = 0; i < length; i++) {
                f.write(1, 5);
            }
            Check.same("the other one", f.wipe(0), 0);
            Check.same("wipe", f.wipe(1), length);
            Check.same("wipe again", f.wipe(1), 0);
        }
    }

    private static void wipesNoOther() {
        for (int robot : Floors.WRONG_ROBOTS) {
            Whole.refusesIndex("wipe " + robot, f -> f.wipe(robot));
        }
    }

    // ---- step

    private static void steps() {
        BeltFloor f = Floors.of(Floors.EMPTY + "i00.i12.");
        f.step(1);
        Check.same("one", Floors.look(f), "24n 35w");
        f.step(2);
        Check.same("two more", Floors.look(f), "12n 35e");
        // Many at once are as many one by one.
        for (int n = 1; n <= 40; n++) {
            BeltFloor once = Whole.after(Whole.BUSY);
            BeltFloor single = Whole.after(Whole.BUSY);
            once.step(n);
            for (int i = 0; i < n; i++) {
                single.step(1);
            }
            Check.same(n + " steps", Floors.picture(once), Floors.picture(single));
        }
    }

    private static void oneToForty() {
        for (int n = 1; n <= 40; n++) {
            BeltFloor f = new BeltFloor();
            Check.same("step " + n, f.step(n), 0);
            Check.same("steps", f.steps(), n);
            f.step(40);
            Check.same("and forty more", f.steps(), n + 40);
        }
    }

    private static void passed() {
        BeltFloor f = Floors.of(Floors.EMPTY + "i00.p24p18p12p06");
        Check.same("none of two by the robot 1, two by the robot 0", f.step(2), 2);
        Check.same("one", f.step(1), 1);
        Check.same("one more, and no other", f.step(40), 1);
        Check.same("none", f.step(40), 0);
        BeltFloor g = Floors.of("...... ...... .es... .nw... ...... ......", "r0130r1200p13p14p20p19");
        Check.same("a ring of belts, none", g.step(1), 0);
        Check.same("all four, by both robots", g.step(7), 8);
        BeltFloor h = Floors.of(Floors.EMPTY + "r0120r1140p14p12");
        h.step(1);
        h.putRobot(0, 13, 0);
        h.putRobot(1, 12, 0);
        h.putRobot(0, 14, 0);
        Check.same("both in one step", h.step(1), 2);
        Check.same("not those of earlier calls", h.step(1), 0);
    }

    private static void stepsOutOfRange() {
        for (int n : new int[] {0, -1, -40, 41, 42, 256 + 1, Integer.MIN_VALUE, Integer.MAX_VALUE}) {
            Whole.refusesArgument("step " + n, f -> f.step(n));
        }
    }

    // ---- undo

    private static void takesBack() {
        for (Whole.Script script : Whole.SCRIPTS) {
            for (Whole.Call action : List.<Whole.Call>of(f -> f.step(3), f -> f.write(0, 5), f -> f.wipe(1),
                    f -> f.putRobot(1, 34, 1), f -> f.setKind(34, 6), f -> f.addCrate(34), f -> f.addCheckpoint(34))) {
                BeltFloor f = Whole.after(script);
                String before = Floors.picture(f);
                if (Check.outcome(() -> action.on(f)).startsWith("answers")) {
                    f.undo();
                }
                Check.same("as before", Floors.picture(f), before);
            }
        }
        // Counts, losses and passed checkpoints, too.
        Whole.Script start = f -> {
            Floors.type(f, "F...............o....................r0121c13c14i00.r1002i110.p13p14");
            f.load();
            f.setKind(6, 2);
        };
        for (int steps = 1; steps <= 12; steps++) {
            BeltFloor f = Whole.after(start);
            BeltFloor g = Whole.after(start);
            for (int i = 0; i < steps; i++) {
                f.step(1);
                g.step(1);
            }
            f.step(1);
            f.undo();
            Check.same("behind " + steps, Floors.picture(f), Floors.picture(g));
        }
    }

    private static void stillRemembered() {
        BeltFloor f = new BeltFloor();
        f.addCrate(0);
        f.addCrate(1);
        f.addCrate(2);
        Check.same("two", f.undo(), 2);
        Check.same("one", f.undo(), 1);
        f.addCrate(3);
        Check.same("one again", f.undo(), 1);
        Check.same("none", f.undo(), 0);
        for (int i = 0; i < 20; i++) {
            f.step(1);
        }
        Check.same("thirteen", f.undo(), 13);
    }

    private static void noneRemembered() {
        Whole.refusesState("undo of a new object", Whole.NEW, BeltFloor::undo);
        Whole.refusesState("undo behind undo", f -> {
            f.addCrate(3);
            f.undo();
        }, BeltFloor::undo);
        Whole.refusesState("undo behind load", f -> {
            f.addCrate(3);
            start(f);
        }, BeltFloor::undo);
        Whole.refusesState("undo behind restore", f -> {
            f.addCrate(3);
            f.save(1);
            f.step(2);
            f.restore(1);
        }, BeltFloor::undo);
        Whole.refusesState("a fifteenth undo", f -> {
            Whole.FULL.play(f);
            for (int i = 0; i < 14; i++) {
                f.undo();
            }
        }, BeltFloor::undo);
    }
}
