/** The sentences of the promises 2 to 5. */
final class TextCallSentences {
    private TextCallSentences() {
    }

    static void all() {
        Doc.promise(2, "Appends a character to the text buffer.", TextCallSentences::appends);
        Doc.promise(2, "`c`: character code, 0 to 255", TextCallSentences::codes);
        Doc.promise(2, "Returns the new length of the text.", TextCallSentences::newLength);
        Doc.promise(2, "Throws `IllegalArgumentException` if c is out of range", TextCallSentences::codesOutOfRange);
        Doc.promise(2, "Throws `IllegalStateException` if the text already has 120 characters",
                TextCallSentences::fullText);
        Doc.promise(3, "Empties the text buffer.", TextCallSentences::empties);
        Doc.promise(3, "Returns the previous length of the text.", TextCallSentences::previousLength);
        Doc.promise(4, "Checks the text.", TextCallSentences::checks);
        Doc.promise(4, "Returns the error position of the text;", TextCallSentences::errorPosition);
        Doc.promise(4, "NONE if it is a floor.", TextCallSentences::noError);
        Doc.promise(5, "Makes everything as in a new object;", TextCallSentences::asNew);
        Doc.promise(5, "then gives the cells the kinds of the text, in their order, as setKind() does,",
                TextCallSentences::givesKinds);
        Doc.promise(5, "and does the others in their order;", TextCallSentences::othersInOrder);
        Doc.promise(5, "what would throw an exception is left out", TextCallSentences::leavesOut);
        Doc.promise(5, "(of i each instruction by itself).", TextCallSentences::eachInstruction);
        Doc.promise(5, "Behind it no state is remembered,", TextCallSentences::noneRemembered);
        Doc.promise(5, "and both save slots are empty.", TextCallSentences::emptySlots);
        Doc.promise(5, "Keeps the text,", TextCallSentences::keepsTheText);
        Doc.promise(5, "also if it throws the exception.", TextCallSentences::keepsABadText);
        Doc.promise(5, "Returns how much is left out.", TextCallSentences::howMuch);
        Doc.promise(5, "Throws `IllegalStateException` if the text is not a floor", TextCallSentences::noFloor);
    }

    private static BeltFloor typed(String text) {
        BeltFloor f = new BeltFloor();
        Floors.type(f, text);
        return f;
    }

    private static void appends() {
        BeltFloor f = new BeltFloor();
        for (char c : "F.#onesw.............................".toCharArray()) {
            f.append(c);
        }
        Check.same("what was appended", f.errorPosition(), -1);
        f.append('c');
        Check.same("what was appended", f.errorPosition(), 38);
        f.append('1');
        f.append('2');
        f.load();
        Check.same("the kind of a sign", f.kindOf(4), 4);
        Check.same("the crate", f.hasCrate(12), true);
        for (int c : new int[] {'F', 0, 255}) {
            Whole.keeps("append " + c, g -> g.append(c), Whole.STATE);
            Whole.keeps("append " + c, g -> g.append(c), Whole.SLOTS);
        }
    }

    private static void codes() {
        for (int from = 0; from < 256; from += 64) {
            BeltFloor f = new BeltFloor();
            for (int c = from; c < from + 64; c++) {
                Check.same("append " + c, f.append(c), c - from + 1);
            }
        }
        Check.same("the least one is no F", typed("\u0000").errorPosition(), 0);
        Check.same("the last one is no F", typed("\u00ff").errorPosition(), 0);
        Check.same("behind F", typed("F\u00ff").errorPosition(), 1);
    }

    private static void newLength() {
        BeltFloor f = new BeltFloor();
        for (int length = 1; length <= 120; length++) {
            Check.same("length", f.append('x'), length);
        }
        f.clearText();
        Check.same("length behind clearText", f.append('x'), 1);
        Check.same("length", f.append('x'), 2);
    }

    private static void codesOutOfRange() {
        for (int c : new int[] {-1, 256, 257, 'F' + 256, 'F' + 65536, 'F' - 256, Integer.MIN_VALUE, Integer.MAX_VALUE}) {
            Whole.refusesArgument("append " + c, f -> f.append(c));
        }
    }

    private static void fullText() {
        for (int c : new int[] {0, 'F', 'c', 255}) {
            Whole.refusesState("append " + c, Whole.FULL, f -> f.append(c));
        }
        BeltFloor f = typed(Whole.fullText().substring(1));
        Check.same("119 are not too many", f.append('x'), 120);
        Check.badState("120 are", () -> f.append('x'));
    }

    private static void empties() {
        BeltFloor f = typed(Floors.EMPTY + "c");
        f.clearText();
        Check.same("no text", f.errorPosition(), 0);
        Floors.type(f, "F");
        Check.same("nothing is left behind it", f.errorPosition(), 1);
        Whole.keeps("clearText", BeltFloor::clearText, Whole.STATE);
        Whole.keeps("clearText", BeltFloor::clearText, Whole.SLOTS);
    }

    private static void previousLength() {
        BeltFloor f = new BeltFloor();
        Check.same("of a new object", f.clearText(), 0);
        Floors.type(f, "Fx");
        Check.same("of two", f.clearText(), 2);
        Check.same("of none", f.clearText(), 0);
        Floors.type(f, Whole.fullText());
        Check.same("of a full one", f.clearText(), 120);
    }

    private static void checks() {
        Whole.keeps("errorPosition", BeltFloor::errorPosition, Whole.ALL);
        BeltFloor f = typed(Floors.EMPTY + "c07");
        Check.same("a floor", f.errorPosition(), -1);
        Check.same("it is checked, not loaded", f.hasCrate(7), false);
    }

    private static void errorPosition() {
        Check.same("the first character", typed("x").errorPosition(), 0);
        Check.same("the second one", typed("Fx").errorPosition(), 1);
        Check.same("the last sign of a floor", typed(Floors.EMPTY.substring(0, 36) + "x").errorPosition(), 36);
        Check.same("behind it", typed(Floors.EMPTY + "x").errorPosition(), 37);
        String full = Whole.fullText();
        Check.same("the last one of 120", typed(full.substring(0, 119) + "x").errorPosition(), 119);
        Check.same("too soon at 120", typed(full.substring(0, 118) + "c0").errorPosition(), 118);
    }

    private static void noError() {
        Check.same("the shortest floor", typed(Floors.EMPTY).errorPosition(), -1);
        Check.same("the longest one", typed(Whole.fullText()).errorPosition(), -1);
        Check.same("one of which much is left out", typed("F" + "#".repeat(36) + "c00c00").errorPosition(), -1);
        Check.same("NONE", BeltFloor.NONE, -1);
    }

    private static void asNew() {
        String fresh = Floors.picture(new BeltFloor());
        for (Whole.Script script : Whole.SCRIPTS) {
            BeltFloor f = Whole.after(script);
            f.clearText();
            Floors.type(f, Floors.EMPTY);
            Check.same("load", f.load(), 0);
            Check.same("as new", Floors.picture(f), fresh);
            f.step(2);
            f.load();
            Check.same("as new again", Floors.picture(f), fresh);
        }
        // A kind that is left out leaves the floor of a new object.
        BeltFloor f = new BeltFloor();
        f.setKind(30, 3);
        f.putRobot(1, 0, 0);
        f.setKind(35, 2);
        f.setKind(14, 1);
        Floors.type(f, "F..............................#....o");
        Check.same("left out", f.load(), 2);
        Check.same("kind of 30", f.kindOf(30), 0);
        Check.same("kind of 35", f.kindOf(35), 0);
        Check.same("kind of 14", f.kindOf(14), 0);
        f.step(1);
        Check.same("neither belt nor pit", Floors.look(f) + " " + Floors.counts(f), "30n 35n 0 0 0 0, 0 0 0 0");
        Floors.putRobots(f, 20, 0, 21, 0);
        f.addCrate(30);
        f.addCrate(35);
        f.step(1);
        Check.same("nor for crates", Floors.look(f), "20n 21n c30 c35");
    }

    private static void givesKinds() {
        BeltFloor f = Floors.of("F.#onesw.#onesw.#onesw.#onesw.#.nesw.");
        String kinds = "012345601234560123456012345601034560";
        for (int cell = 0; cell < 36; cell++) {
            Check.same("kind of " + cell, f.kindOf(cell), kinds.charAt(cell) - '0');
        }
        BeltFloor g = typed("F" + "o".repeat(36));
        Check.same("pits under the robots", g.load(), 2);
        Check.same("kind of 30", g.kindOf(30), 0);
        Check.same("kind of 29", g.kindOf(29), 2);
        Check.same("blocks under the robots", typed("F" + "#".repeat(36)).load(), 2);
        Check.same("belts under the robots", typed("F" + "e".repeat(36)).load(), 0);
        // The kinds come before all that follows them, and the robots stand where a new object has them.
        BeltFloor h = typed("F..............................#.....r0000");
        h.putRobot(0, 0, 0);
        Check.same("a block under the robot, which goes later", h.load(), 1);
        Check.same("kind of 30", h.kindOf(30), 0);
        Check.same("cell of 0", h.cellOf(0), 0);
    }

    private static void othersInOrder() {
        BeltFloor f = Floors.of(Floors.EMPTY + "r0070c30p07p30i03.i04.");
        Check.same("the robot goes, then the crate comes", Floors.look(f), "7n 35n c30");
        Check.same("the first checkpoint", f.cellOfCheckpoint(1), 7);
        Check.same("the second one", f.cellOfCheckpoint(2), 30);
        Check.same("the first instruction", f.instructionAt(0, 0), 3);
        Check.same("the second one", f.instructionAt(0, 1), 4);
        BeltFloor g = typed(Floors.EMPTY + "c30r0070c07");
        Check.same("a crate on the robot, and again", g.load(), 2);
        Check.same("without crates", Floors.look(g), "7n 35n");
        BeltFloor h = Floors.of(Floors.EMPTY + "r0070r0080r1301r1092");
        Check.same("each robot where it was put last", Floors.look(h), "8n 9s");
        BeltFloor i = typed(Floors.EMPTY + "c00c01c02c03c04c05c06c07c08c09r0080");
        Check.same("the first eight crates", i.load(), 2);
        Check.same("the first eight crates", Floors.look(i), "8n 35n c0 c1 c2 c3 c4 c5 c6 c7");
    }

    private static void leavesOut() {
        String text = "Fo#n" + ".".repeat(33);
        leftOut(text + "c00", 1, "30n 35n");
        leftOut(text + "c01", 1, "30n 35n");
        leftOut(text + "c02", 0, "30n 35n c2");
        leftOut(text + "c12c12", 1, "30n 35n c12");
        leftOut(text + "c30c35", 2, "30n 35n");
        leftOut(text + "p00p01p02", 2, "30n 35n");
        leftOut(text + "p12p12", 1, "30n 35n");
        leftOut(text + "p12p13p14p15p16p17", 2, "30n 35n");
        leftOut(text + "r0000r0010r0021", 2, "2e 35n");
        leftOut(text + "r0350r1300", 2, "30n 35n");
        leftOut(text + "r0302r1353", 0, "30s 35w");
        leftOut(text + "c12r0120r1121", 2, "30n 35n c12");
        // What comes behind it is done all the same.
        leftOut(text + "c30c07p00p07r0350r0082", 3, "8s 35n c7");
    }

    private static void leftOut(String text, int due, String look) {
        BeltFloor f = typed(text);
        Check.same("left out of " + text, f.load(), due);
        Check.same(text, Floors.look(f), look);
        Check.badState("none is remembered behind " + text, f::undo);
    }

    private static void eachInstruction() {
        BeltFloor f = typed(Floors.EMPTY + "i0012345012.i0543.");
        Check.same("two of twelve", f.load(), 2);
        Check.same("the last one that found room", f.instructionAt(0, 9), 5);
        BeltFloor g = typed(Floors.EMPTY + "i10123450123.i15.i00123.i15432.");
        Check.same("five of fifteen", g.load(), 5);
        Check.same("length of 0", g.lengthOf(0), 4);
        Check.same("length of 1", g.lengthOf(1), 10);
        Check.same("the last one", g.instructionAt(1, 9), 3);
    }

    private static void noneRemembered() {
        for (Whole.Script script : Whole.SCRIPTS) {
            BeltFloor f = Whole.after(script);
            f.clearText();
            Floors.type(f, Floors.EMPTY + "c07p08i00.");
            f.load();
            Check.badState("undo behind load", f::undo);
            f.addCrate(0);
            Check.same("undo of the first action", f.undo(), 0);
            Check.badState("undo", f::undo);
        }
    }

    private static void emptySlots() {
        for (Whole.Script script : Whole.SCRIPTS) {
            BeltFloor f = Whole.after(script);
            f.clearText();
            Floors.type(f, Floors.EMPTY);
            f.save(0);
            f.save(1);
            f.load();
            Check.badState("restore 0 behind load", () -> f.restore(0));
            Check.badState("restore 1 behind load", () -> f.restore(1));
            f.save(1);
            Check.badState("restore 0 behind save 1", () -> f.restore(0));
            Check.same("restore 1 behind save 1", f.restore(1), 0);
        }
    }

    private static void keepsTheText() {
        BeltFloor f = typed(Floors.EMPTY + "c07");
        f.load();
        Check.same("still a floor", f.errorPosition(), -1);
        f.takeCrate(7);
        f.load();
        Check.same("loaded again", f.hasCrate(7), true);
        Check.same("length", f.append('c'), 41);
        Whole.keeps("load", BeltFloor::load, Whole.TEXT);
    }

    private static void keepsABadText() {
        BeltFloor f = typed(Floors.EMPTY + "c");
        Check.badState("load", f::load);
        Check.same("error position", f.errorPosition(), 38);
        Floors.type(f, "07");
        Check.same("load", f.load(), 0);
        Check.same("the crate", f.hasCrate(7), true);
        Check.same("length", f.clearText(), 40);
    }

    private static void howMuch() {
        Check.same("nothing", typed(Floors.EMPTY + "c07").load(), 0);
        Check.same("one", typed(Floors.EMPTY + "c07c07").load(), 1);
        Check.same("two kinds, two crates, a checkpoint, a robot, three instructions",
                typed("F" + "#".repeat(36) + "c00c35p00r0000i00123450123.i0000.").load(), 9);
        Check.same("as much as there is room for", typed(Whole.fullText()).load(), 25);
    }

    private static void noFloor() {
        for (String text : new String[] {"", "F", "x", Floors.EMPTY.substring(1), Floors.EMPTY.substring(0, 36),
            Floors.EMPTY + "c", Floors.EMPTY + "c36", Floors.EMPTY + "i0.", Floors.EMPTY + " ", Floors.EMPTY + "c07x"}) {
            Whole.refusesState("load of " + text, f -> {
                f.setKind(8, 4);
                f.addCrate(8);
                f.save(1);
                f.step(3);
                Floors.type(f, text);
            }, BeltFloor::load);
        }
        Whole.refusesState("load of no text", Whole.NEW, BeltFloor::load);
        Whole.refusesState("load of a text with an error", Whole.BUSY, BeltFloor::load);
    }
}
