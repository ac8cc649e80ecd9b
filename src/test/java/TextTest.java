/** Promises 2 to 5. */
final class TextTest {
    public static void main(String[] args) {
        append();
        clearText();
        errorInKinds();
        errorInCells();
        errorInRobots();
        errorInPrograms();
        errorInFullTexts();
        loadGivesWhatTheTextSays();
        loadMakesEverythingNew();
        loadMakesNewWhatItLeavesOut();
        loadLeavesOut();
        loadLeavesOutWhatIsTooMuch();
        loadGoesInOrder();
        loadRefuses();
        Check.end();
    }

    private static void append() {
        BeltFloor f = new BeltFloor();
        Check.badArgument("append(-1)", () -> f.append(-1));
        Check.badArgument("append(256)", () -> f.append(256));
        Check.badArgument("append(65536 + 70)", () -> f.append(65536 + 70));
        Check.same("append(0)", f.append(0), 1);
        Check.same("append(255)", f.append(255), 2);
        for (int i = 3; i <= 120; i++) {
            Check.same("append " + i, f.append('x'), i);
        }
        Check.badState("append to a full text", () -> f.append('x'));
        Check.badArgument("append(256) to a full text", () -> f.append(256));
        Check.same("length", f.clearText(), 120);
        Check.same("append behind clearText", f.append('F'), 1);
        Check.same("append is no action", Check.outcome(() -> f.undo()).equals("throws IllegalStateException"), true);
    }

    private static void clearText() {
        BeltFloor f = new BeltFloor();
        Check.same("clearText of nothing", f.clearText(), 0);
        Floors.type(f, "Fx");
        Check.same("clearText", f.clearText(), 2);
        Check.same("clearText again", f.clearText(), 0);
        Floors.type(f, Floors.EMPTY);
        Check.same("nothing of the old text is left", f.errorPosition(), -1);
        f.addCrate(3);
        f.save(0);
        f.clearText();
        Check.same("the floor stays", f.hasCrate(3), true);
        Check.same("the slot stays", f.restore(0), 0);
    }

    private static void error(String text, int due) {
        BeltFloor f = new BeltFloor();
        Floors.type(f, text);
        Check.same("errorPosition() of " + text, f.errorPosition(), due);
        Check.same("length of " + text, f.clearText(), text.length());
        Check.same("errorPosition() of no text", f.errorPosition(), 0);
    }

    /** An error in what stands behind a whole floor of 36 cells. */
    private static void errorBehind(String items, int due) {
        error(Floors.EMPTY + items, due < 0 ? due : 37 + due);
        error(Floors.EMPTY + "c00i15.r0123" + items, due < 0 ? due : 49 + due);
    }

    private static void errorInKinds() {
        error("f" + Floors.EMPTY.substring(1), 0);
        error(" F", 0);
        error("F", 1);
        error("F.#onesw", 8);
        error("F.#onesw.#onesw.#onesw.#onesw.#onesw.", -1);
        error(Floors.EMPTY, -1);
        error(Floors.EMPTY.substring(0, 36), 36);
        error(Floors.EMPTY.substring(0, 36) + "c00", 36);
        for (char wrong : " FNESWO0123456cpri,$\u0000\u00ff".toCharArray()) {
            error("F" + wrong, 1);
            error(Floors.EMPTY.substring(0, 36) + wrong, 36);
        }
        for (char wrong : ".#onesw F0CPRI\u0000\u00ff".toCharArray()) {
            errorBehind("" + wrong, 0);
        }
    }

    private static void errorInCells() {
        for (char letter : "cp".toCharArray()) {
            errorBehind("" + letter, 1);
            for (int number = 0; number < 100; number++) {
                String cell = "" + number / 10 + number % 10;
                errorBehind(letter + cell, number < 36 ? -1 : number < 40 ? 2 : 1);
            }
            errorBehind(letter + "3", 2);
            errorBehind(letter + "0", 2);
            errorBehind(letter + "/0", 1);
            errorBehind(letter + ":0", 1);
            errorBehind(letter + "0/", 2);
            errorBehind(letter + "0:", 2);
            errorBehind(letter + "2:", 2);
            errorBehind(letter + " 1", 1);
            errorBehind(letter + "1 ", 2);
            errorBehind(letter + "001", 3);
            errorBehind(letter + "00.", 3);
        }
    }

    private static void errorInRobots() {
        errorBehind("r", 1);
        errorBehind("r0", 2);
        errorBehind("r1", 2);
        errorBehind("r2", 1);
        errorBehind("r/", 1);
        errorBehind("r00", 3);
        errorBehind("r04", 2);
        errorBehind("r03", 3);
        errorBehind("r036", 3);
        errorBehind("r035", 4);
        errorBehind("r0350", -1);
        errorBehind("r1353", -1);
        errorBehind("r1354", 4);
        errorBehind("r135/", 4);
        errorBehind("r13530", 5);
    }

    private static void errorInPrograms() {
        errorBehind("i", 1);
        errorBehind("i2", 1);
        errorBehind("i.", 1);
        errorBehind("i0", 2);
        errorBehind("i0.", 2);
        errorBehind("i06.", 2);
        errorBehind("i0/.", 2);
        errorBehind("i00", 3);
        errorBehind("i00.", -1);
        errorBehind("i15.", -1);
        errorBehind("i156.", 3);
        errorBehind("i00c", 3);
        errorBehind("i0012345012", 11);
        errorBehind("i00123450123", 12);
        errorBehind("i00123450123.", -1);
        errorBehind("i001234501234.", 12);
        errorBehind("i00123450123.c", 14);
        errorBehind("i00123450123..", 13);
    }

    private static void errorInFullTexts() {
        StringBuilder s = new StringBuilder(Floors.EMPTY).append("r0001");
        while (s.length() < 120) {
            s.append("c00");
        }
        error(s.toString(), -1);
        error(s.substring(0, 117) + "r00", 120);
        error(s.substring(0, 117) + "i00", 120);
        error(s.substring(0, 117) + "c36", 119);
    }

    private static void loadGivesWhatTheTextSays() {
        BeltFloor f = Floors.of(".#onesw.#onesw.#onesw.#onesw.#.nesw.", "c05p11r0071c30i00123.p00i0455.i15.c17r1202");
        String kinds = "012345601234560123456012345601034560";
        for (int cell = 0; cell < 36; cell++) {
            Check.same("kind of " + cell, f.kindOf(cell), kinds.charAt(cell) - '0');
            Check.same("crate on " + cell, f.hasCrate(cell), cell == 5 || cell == 30 || cell == 17);
        }
        Check.same("checkpoints", f.checkpoints(), 2);
        Check.same("checkpoint 1", f.cellOfCheckpoint(1), 11);
        Check.same("checkpoint 2", f.cellOfCheckpoint(2), 0);
        Check.same("cell of 0", f.cellOf(0), 7 + 0);
        Check.same("facing of 0", f.facingOf(0), 1);
        Check.same("cell of 1", f.cellOf(1), 20);
        Check.same("facing of 1", f.facingOf(1), 2);
        int[] program = {0, 1, 2, 3, 4, 5, 5};
        Check.same("length of 0", f.lengthOf(0), program.length);
        for (int place = 0; place < program.length; place++) {
            Check.same("instruction " + place, f.instructionAt(0, place), program[place]);
        }
        Check.same("length of 1", f.lengthOf(1), 1);
        Check.same("instruction of 1", f.instructionAt(1, 0), 5);
        Check.same("crates", f.cratesByCells(), 3);
        Check.same("crates by accounts", f.cratesByAccounts(), 3);
    }

    private static void loadMakesEverythingNew() {
        BeltFloor f = new BeltFloor();
        f.setKind(0, 2);
        f.setKind(1, 3);
        f.addCrate(6);
        f.addCrate(24);
        f.addCrate(7);
        f.takeCrate(7);
        f.addCheckpoint(18);
        f.putRobot(1, 12, 3);
        f.putRobot(0, 30, 0);
        f.write(0, 0);
        f.write(0, 3);
        f.write(1, 0);
        f.write(1, 0);
        f.step(3);
        f.save(0);
        f.save(1);
        Floors.type(f, Floors.EMPTY);
        Check.same("load", f.load(), 0);
        Check.same("as new", Floors.picture(f).equals(Floors.picture(new BeltFloor())), true);
        Check.badState("undo behind load", () -> f.undo());
        Check.badState("restore 0 behind load", () -> f.restore(0));
        Check.badState("restore 1 behind load", () -> f.restore(1));
        f.addCrate(8);
        Check.same("load again, the text is kept", f.load(), 0);
        Check.same("as new again", Floors.picture(f).equals(Floors.picture(new BeltFloor())), true);
        Check.same("length", f.clearText(), 37);
        f.addCrate(8);
        Check.same("undo behind load and an action", f.undo(), 0);
    }

    /** A cell whose kind is left out is floor, as in a new object, and no belt or pit from before. */
    private static void loadMakesNewWhatItLeavesOut() {
        BeltFloor f = new BeltFloor();
        f.setKind(30, 3);
        f.putRobot(1, 0, 0);
        f.setKind(35, 2);
        Floors.type(f, "F..............................#....o");
        Check.same("left out", f.load(), 2);
        Check.same("kind of 30", f.kindOf(30), 0);
        Check.same("kind of 35", f.kindOf(35), 0);
        f.step(1);
        Check.same("it is not carried", f.cellOf(0), 30);
        Check.same("it does not fall", f.fallsOf(1), 0);
        f.putRobot(0, 20, 0);
        f.putRobot(1, 21, 0);
        f.addCrate(30);
        f.addCrate(35);
        f.step(1);
        Check.same("a crate stays", f.hasCrate(30), true);
        Check.same("another one stays", f.hasCrate(35), true);
    }

    private static int leftOut(String text) {
        BeltFloor f = new BeltFloor();
        Floors.type(f, text);
        int left = f.load();
        Check.badState("undo behind load of " + text, () -> f.undo());
        return left;
    }

    private static void loadLeavesOut() {
        String rows = "Fo#............................";
        Check.same("kinds under robots", leftOut(rows + "#....o"), 2);
        Check.same("a pit and a block under robots", leftOut(rows + "o....#"), 2);
        Check.same("belts under robots", leftOut(rows + "n....w"), 0);
        String text = rows + "......";
        Check.same("crate on a robot", leftOut(text + "c30c35"), 2);
        Check.same("crate on a crate", leftOut(text + "c12c12"), 1);
        Check.same("crate on a pit and a block", leftOut(text + "c00c01"), 2);
        Check.same("checkpoint on a pit and a block", leftOut(text + "p00p01p02"), 2);
        Check.same("checkpoint on a checkpoint", leftOut(text + "p12p12"), 1);
        Check.same("robot on the other one", leftOut(text + "r0350r1300"), 2);
        Check.same("robot on its own cell", leftOut(text + "r0302"), 0);
        Check.same("robot on a pit and a block", leftOut(text + "r0000r1010"), 2);
        Check.same("robot on a crate", leftOut(text + "c12r0120"), 1);
        BeltFloor f = new BeltFloor();
        Floors.type(f, rows + "#....oc30p30c02");
        Check.same("left out", f.load(), 3);
        Check.same("kind of 30", f.kindOf(30), 0);
        Check.same("kind of 35", f.kindOf(35), 0);
        Check.same("checkpoint 1", f.cellOfCheckpoint(1), 30);
        Check.same("crates", f.cratesByCells(), 1);
    }

    private static void loadLeavesOutWhatIsTooMuch() {
        String text = Floors.EMPTY;
        Check.same("9 crates and one more", leftOut(text + "c00c01c02c03c04c05c06c07c08c09"), 2);
        Check.same("5 checkpoints", leftOut(text + "p00p01p02p03p04"), 1);
        Check.same("12 instructions", leftOut(text + "i0012345012.i0543."), 2);
        Check.same("14 instructions for one, 10 for the other",
                leftOut(text + "i10123450123.i10123.i00123450123."), 4);
        BeltFloor f = new BeltFloor();
        Floors.type(f, text + "i0012345012.i0543.");
        f.load();
        Check.same("length", f.lengthOf(0), 10);
        Check.same("the last one that found room", f.instructionAt(0, 9), 5);
    }

    private static void loadGoesInOrder() {
        Check.same("a robot that went first", leftOut(Floors.EMPTY + "r0070c30c07"), 1);
        Check.same("a crate that came first", leftOut(Floors.EMPTY + "c30c07r0070"), 2);
        BeltFloor f = Floors.of(Floors.EMPTY + "p07p03i03.i02.");
        Check.same("the first checkpoint", f.cellOfCheckpoint(1), 7);
        Check.same("the first instruction", f.instructionAt(0, 0), 3);
    }

    private static void loadRefuses() {
        BeltFloor f = new BeltFloor();
        Check.badState("load of no text", () -> f.load());
        Floors.type(f, Floors.EMPTY + "c");
        f.addCrate(7);
        f.save(0);
        f.addCrate(8);
        String before = Floors.picture(f);
        Check.badState("load of a bad text", () -> f.load());
        Check.same("nothing changed", Floors.picture(f).equals(before), true);
        Check.same("the text is kept", f.append('0'), 39);
        Check.same("undo", f.undo(), 1);
        Check.same("restore", f.restore(0), 0);
        Check.same("crate", f.hasCrate(7), true);
    }
}
