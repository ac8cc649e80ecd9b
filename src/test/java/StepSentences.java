/** The sentences of A STEP, about the instructions, and about checkpoints; those about belts and pits are in BeltSentences. */
final class StepSentences {
    private static final String ABOUT = "A STEP";
    private static final String FREE = Floors.FREE;

    private StepSentences() {
    }

    static void all() {
        Doc.says(ABOUT, "In a step this happens, one after the other:", StepSentences::oneAfterTheOther);
        Doc.says(ABOUT, "Both robots follow their instructions, and come to the next place in their programs.",
                StepSentences::bothFollow);
        Doc.says(ABOUT, "A robot that turns faces another direction then.", StepSentences::turns);
        Doc.says(ABOUT, "A robot that goes forward or back wants to move by one cell, in the direction that it faces, or"
                + " in the opposite one (it goes on facing as it does).", StepSentences::forwardAndBack);
        Doc.says(ABOUT, "The things on the cells ahead of it in this direction, up to the first cell without a thing,"
                + " are its row;", StepSentences::rows);
        Doc.says(ABOUT, "its way are its own cell, the cells of its row, and that first cell behind them.",
                StepSentences::ways);
        Doc.says(ABOUT, "It is blocked if there is no such cell on the floor,", StepSentences::blockedAtTheEdge);
        Doc.says(ABOUT, "or if that cell is a block.", StepSentences::blockedBeforeABlock);
        Doc.says(ABOUT, "If both robots want to move,", StepSentences::bothWantToMove);
        Doc.says(ABOUT, "neither is blocked,", StepSentences::neitherIsBlocked);
        Doc.says(ABOUT, "and their ways have a cell in common, they clash.", StepSentences::aCellInCommon);
        Doc.says(ABOUT, "and their ways have a cell in common, they clash.", StepSentences::noCellInCommon);
        Doc.says(ABOUT, "A robot that is neither blocked nor clashes moves, and each thing of its row moves by one cell,"
                + " too; it has pushed them.", StepSentences::pushes);
        Doc.says(ABOUT, "A robot that wants to move and does not has bumped.", StepSentences::bumps);
        Doc.says(ABOUT, "A robot on the cell of its next checkpoint passes it.", StepSentences::passes);
        Doc.says(ABOUT, "At first the next checkpoint of each robot is 1;", StepSentences::nextAtFirst);
        Doc.says(ABOUT, "when it has passed one, it is the following one.", StepSentences::theFollowingOne);
        Doc.says(ABOUT, "A robot is home if there is a checkpoint,", StepSentences::homeNeedsACheckpoint);
        Doc.says(ABOUT, "and it has passed all of them.", StepSentences::homeNeedsAll);
    }

    /** How it looks when a step has been made. */
    private static void step(String rows, String items, String due) {
        BeltFloor f = Floors.of(rows, items);
        f.step(1);
        Check.same(rows + " " + items, Floors.look(f), due);
    }

    /** The same, with what is counted of both robots. */
    private static void step(String rows, String items, String due, String counts) {
        BeltFloor f = Floors.of(rows, items);
        f.step(1);
        Check.same(rows + " " + items, Floors.look(f) + " " + Floors.counts(f), due + " " + counts);
    }

    private static void oneAfterTheOther() {
        // First the instructions, then the belts: what was pushed onto a belt is carried by it at once.
        step("...... ...... ..s... ...... ...... ......", "r0121i00.c13", "13e 35n c20");
        step("...... ...... .s.... ...... ...... ......", "r0121i00.", "19e 35n");
        // A robot that leaves a belt by itself is not carried by it.
        step("...... ...... s..... ...... ...... ......", "r0121i00.", "13e 35n");
        // Then the pits: what was pushed or carried onto a pit falls at once.
        step("...... ...... ..o... ...... ...... ......", "r0121i00.c13", "13e 35n");
        step("...... ...... ..eo.. ...... ...... ......", "r0121i00.c13", "13e 35n");
        step("...... ...... .eo... ...... ...... ......", "r0121i00.", "0n 35n");
        step("e..... ...... .o.... ...... ...... ......", "r0121i00.", "1n 35n");
        // Then the checkpoints: where it went over is not passed, where it came to is.
        BeltFloor f = Floors.of("...... ...... .eo... ...... ...... ......", "r0121i00.p13p00");
        Check.same("carried over a checkpoint", f.step(1), 0);
        BeltFloor g = Floors.of("...... ...... .eo... ...... ...... ......", "r0121i00.p00p13");
        Check.same("fallen to a checkpoint", g.step(1), 1);
    }

    private static void bothFollow() {
        for (int one = 0; one <= 5; one++) {
            for (int other = 0; other <= 5; other++) {
                BeltFloor f = Floors.of(FREE, "r0070r1280i0" + one + "5.i1" + other + "5.");
                f.step(1);
                Check.same("place of 0", f.placeOf(0), 1);
                Check.same("place of 1", f.placeOf(1), 1);
                String zero = new String[] {"1n", "13n", "7w", "7e", "7s", "7n"}[one];
                String first = new String[] {"22n", "34n", "28w", "28e", "28s", "28n"}[other];
                Check.same(one + " and " + other, Floors.look(f), zero + " " + first);
            }
        }
        // They come to the next place also when they are blocked, clash, are pushed, or fall.
        place("blocked", Floors.of(FREE, "r0000i005."));
        place("clashing", Floors.of(FREE, "r0121r1143i005.i105."));
        place("pushed", Floors.of(FREE, "r0130i035.r1121i10."));
        place("falling", Floors.of("...... ...... .o.... ...... ...... ......", "r0121i005."));
    }

    private static void place(String what, BeltFloor f) {
        f.step(1);
        Check.same("place of one that is " + what, f.placeOf(0), 1);
    }

    private static void turns() {
        BeltFloor f = Floors.of(FREE, "r0141i02.i13.");
        String[] left = {"n", "w", "s", "e"};
        String[] right = {"e", "s", "w", "n"};
        for (int step = 0; step < 8; step++) {
            f.step(1);
            Check.same("turn " + step, Floors.look(f), "14" + left[step % 4] + " 35" + right[step % 4]);
        }
        Check.same("turning is no moving", Floors.counts(f), "0 0 0 0, 0 0 0 0");
        // It turns also while it is pushed, and then faces the new direction.
        step(FREE, "r0121i00.r1130i14.", "13e 14s");
        step(FREE, "r1121i10.r0130i02.", "14w 13e");
        BeltFloor g = Floors.of(FREE, "r0141i0020.");
        g.step(4);
        Check.same("forward, left, forward, forward", Floors.look(g), "3n 35n");
    }

    private static void forwardAndBack() {
        for (int facing = 0; facing < 4; facing++) {
            char same = "nesw".charAt(facing);
            int ahead = Floors.beside(14, facing);
            int behind = Floors.beside(14, (facing + 2) % 4);
            step(FREE, "r014" + facing + "i00.", ahead + "" + same + " 35n", "1 0 0 0, 0 0 0 0");
            step(FREE, "r014" + facing + "i01.", behind + "" + same + " 35n", "1 0 0 0, 0 0 0 0");
            // What stands on the other side is left alone.
            step(FREE, "r014" + facing + "i00.c" + two(behind), ahead + "" + same + " 35n c" + behind);
            step(FREE, "r014" + facing + "i01.c" + two(ahead), behind + "" + same + " 35n c" + ahead);
        }
    }

    private static String two(int cell) {
        return (cell < 10 ? "0" : "") + cell;
    }

    private static void rows() {
        row("an empty row", "r0121i00.", 0, "13e 35n");
        row("one", "r0121i00.c13", 1, "13e 35n c14");
        row("two", "r0121i00.c13c14", 2, "13e 35n c14 c15");
        row("three", "r0121i00.c13c14c15", 3, "13e 35n c14 c15 c16");
        row("four", "r0121i00.c13c14c15c16", 4, "13e 35n c14 c15 c16 c17");
        row("up to the first cell without a thing", "r0121i00.c13c15c16", 1, "13e 35n c14 c15 c16");
        row("none directly ahead", "r0121i00.c14c15", 0, "13e 35n c14 c15");
        row("the other robot", "r0121i00.r1132", 1, "13e 14s");
        row("a crate, the other robot, a crate", "r0121i00.c13r1142c15", 3, "13e 15s c14 c16");
        row("not the next floor row", "r0161i00.c17c18", -1, "16e 35n c17 c18");
        row("to the north", "r0300i00.c24c18c12c06", 4, "24n 35n c0 c6 c12 c18");
        row("to the west", "r0173i00.c16c15c13", 2, "16w 35n c13 c14 c15");
        row("to the south", "r0052i00.c11c17c23", 3, "11s 35n c17 c23 c29");
    }

    private static void row(String what, String items, int ahead, String due) {
        BeltFloor f = Floors.of(FREE, items);
        Check.same("rowAhead: " + what, f.rowAhead(0), ahead);
        f.step(1);
        Check.same(what, Floors.look(f), due);
        Check.same("pushes: " + what, f.pushesOf(0), Math.max(ahead, 0));
    }

    /** The robot 1 comes from aside to each cell of the row 2: only those of the way make it clash. */
    private static void ways() {
        for (int column = 0; column < 6; column++) {
            String from = two(6 + column) + "2";
            BeltFloor empty = Floors.of(FREE, "r0121i00.r1" + from + "i10.");
            Check.same("an empty row, column " + column, empty.wouldClash(), column <= 1);
            BeltFloor two = Floors.of(FREE, "r0121i00.c13c14r1" + from + "i10.");
            Check.same("a row of two, column " + column, two.wouldClash(), column <= 3);
            BeltFloor back = Floors.of(FREE, "r0153i01.c16r1" + from + "i10.");
            Check.same("going back, column " + column, back.wouldClash(), column >= 3);
        }
        // The other one's own cell is a part of its way: going behind it is a clash, too.
        Check.same("one behind the other", Floors.of(FREE, "r0121i00.r1131i10.").wouldClash(), true);
        Check.same("with a cell between", Floors.of(FREE, "r0121i00.r1141i10.").wouldClash(), false);
    }

    private static void blockedAtTheEdge() {
        for (int cell = 0; cell < 36; cell++) {
            for (int direction = 0; direction < 4; direction++) {
                if (Floors.beside(cell, direction) < 0) {
                    blockedGoing(cell, direction);
                }
            }
        }
        // Behind a row, too: there is no cell behind its last thing.
        step(FREE, "r0161i00.c17", "16e 35n c17", "0 1 0 0, 0 0 0 0");
        step(FREE, "r0131i00.c14c15c16c17", "13e 35n c14 c15 c16 c17", "0 1 0 0, 0 0 0 0");
        step(FREE, "r0121i00.c13c14c15c16c17", "12e 35n c13 c14 c15 c16 c17", "0 1 0 0, 0 0 0 0");
        step(FREE, "r0341i00.", "34e 35n", "0 1 0 0, 0 0 0 0");
        step(FREE, "r0063i01.r1111c07c08c09c10", "6w 11e c7 c8 c9 c10", "0 1 0 0, 0 0 0 0");
        step(FREE, "r0242i00.c30", "24s 35n c30", "0 1 0 0, 0 0 0 0");
        step(FREE, "r0012i01.", "1s 35n", "0 1 0 0, 0 0 0 0");
    }

    private static void blockedGoing(int cell, int direction) {
        String forward = "r1140r0" + two(cell) + direction + "i00.";
        String back = "r1140r0" + two(cell) + (direction + 2) % 4 + "i01.";
        for (String items : new String[] {forward, back}) {
            BeltFloor f = Floors.of(FREE, items);
            f.step(1);
            Check.same("from " + cell + " over the edge", f.cellOf(0), cell);
            Check.same("counts", Floors.counts(f), "0 1 0 0, 0 0 0 0");
        }
    }

    private static void blockedBeforeABlock() {
        String[] rows = {"...... ..#... ...... ...... ...... ......", "...... ...... ...#.. ...... ...... ......",
            "...... ...... ...... ..#... ...... ......", "...... ...... .#.... ...... ...... ......"};
        for (int direction = 0; direction < 4; direction++) {
            char facing = "nesw".charAt(direction);
            step(rows[direction], "r014" + direction + "i00.", "14" + facing + " 35n", "0 1 0 0, 0 0 0 0");
            int opposite = (direction + 2) % 4;
            step(rows[direction], "r014" + opposite + "i01.", "14" + "nesw".charAt(opposite) + " 35n", "0 1 0 0, 0 0 0 0");
        }
        step("...... ...... ...#.. ...... ...... ......", "r0121i00.c13c14", "12e 35n c13 c14", "0 1 0 0, 0 0 0 0");
        step("...... ...... ...#.. ...... ...... ......", "r0121i00.c13", "13e 35n c14", "1 0 1 0, 0 0 0 0");
        // A pit and a belt are no blocks, and a block beside the way does not matter.
        step("...... ...... ...o.. ...... ...... ......", "r0121i00.c13c14", "13e 35n c14", "1 0 2 0, 0 0 0 0");
        step("...... ...... .w.... ...... ...... ......", "r0121i00.", "12e 35n", "1 0 0 0, 0 0 0 0");
        step("...... .##... #..... .##... ...... ......", "r0131i01.", "13e 35n", "0 1 0 0, 0 0 0 0");
        step("...... .##... #..#.. .##... ...... ......", "r0131i00.", "14e 35n", "1 0 0 0, 0 0 0 0");
    }

    private static void bothWantToMove() {
        String meet = "r0121r1143";
        step(FREE, meet + "i00.i10.", "12e 14w", "0 1 0 0, 0 1 0 0");
        step(FREE, meet + "i00.i15.", "13e 14w", "1 0 0 0, 0 0 0 0");
        step(FREE, meet + "i05.i10.", "12e 13w", "0 0 0 0, 1 0 0 0");
        step(FREE, meet + "i00.", "13e 14w", "1 0 0 0, 0 0 0 0");
        step(FREE, meet + "i10.", "12e 13w", "0 0 0 0, 1 0 0 0");
        step(FREE, meet + "i00.i12.", "13e 14s", "1 0 0 0, 0 0 0 0");
        step(FREE, meet + "i03.i10.", "12s 13w", "0 0 0 0, 1 0 0 0");
        step(FREE, meet + "i00.i14.", "13e 14e", "1 0 0 0, 0 0 0 0");
        step(FREE, meet, "12e 14w", "0 0 0 0, 0 0 0 0");
    }

    private static void neitherIsBlocked() {
        // The robot 1 is blocked by the edge: the robot 0 pushes it along.
        step(FREE, "r0061i00.r1070c01i10.", "7e 8n c1", "1 0 1 0, 0 1 0 0");
        step(FREE, "r1061i10.r0070c01i00.", "8n 7e c1", "0 1 0 0, 1 0 1 0");
        // It is blocked by a block.
        step(".#.... ...... ...... ...... ...... ......", "r0061i00.r1070i10.", "7e 8n", "1 0 1 0, 0 1 0 0");
        // The robot 0 is blocked at the end of its row: the robot 1 goes through the row.
        step(FREE, "r0121r1082i00.i10.c13c14c15c16c17", "12e 14s c13 c15 c16 c17 c20", "0 1 0 0, 1 0 1 0");
        step(FREE, "r1121r0082i00.i10.c13c14c15c16c17", "14s 12e c13 c15 c16 c17 c20", "1 0 1 0, 0 1 0 0");
        // Both are blocked: they bump, and no more.
        step(FREE, "r0161r1173i00.i10.c15c14c13c12", "16e 17w c12 c13 c14 c15", "0 1 0 0, 0 1 0 0");
    }

    private static void aCellInCommon() {
        clash("the same free cell, from both sides", "r0121r1143", "12e 14w");
        clash("the same free cell, round a corner", "r0121r1072", "12e 7s");
        clash("each other's cell", "r0131r1143", "13e 14w");
        clash("the cell that the other one leaves", "r0121r1130", "12e 13n");
        clash("the other one leaves it in the same direction", "r0121r1131", "12e 13e");
        clash("the last crate of a row", "r0121r1092c13c14c15", "12e 9s c13 c14 c15");
        clash("the same crate", "r0121r1072c13", "12e 7s c13");
        clash("the same crate, from both sides", "r0131r1153c14", "13e 15w c14");
        clash("crates of both rows", "r0121r1022c13c14c08", "12e 2s c8 c13 c14");
        clash("the free cell behind both rows", "r0121r1173c13c14c16", "12e 17w c13 c14 c16");
        clash("the other one in the row", "r0121r1140c13", "12e 14n c13");
        for (String hole : new String[] {"o", "n", "s"}) {
            BeltFloor f = Floors.of("...... ...... .?.... ...... ...... ......".replace("?", hole), "r0121r1143i00.i10.");
            f.step(1);
            Check.same("a cell of the kind " + hole, Floors.look(f), "12e 14w");
        }
    }

    /** Both want forward, and clash: both bump, and nothing moves. Then the same with the robots' parts changed. */
    private static void clash(String what, String items, String due) {
        String turned = items.replace("r0", "r?").replace("r1", "r0").replace("r?", "r1");
        String[] parts = due.split(" ", 3);
        String turnedDue = parts[1] + " " + parts[0] + (parts.length > 2 ? " " + parts[2] : "");
        for (int i = 0; i < 2; i++) {
            BeltFloor f = Floors.of(FREE, (i == 0 ? items : turned) + "i00.i10.");
            Check.same(what + ": wouldClash", f.wouldClash(), true);
            f.step(1);
            Check.same(what, Floors.look(f), i == 0 ? due : turnedDue);
            Check.same(what + ": counts", Floors.counts(f), "0 1 0 0, 0 1 0 0");
            Check.same(what + ": again", f.wouldClash(), true);
        }
    }

    private static void noCellInCommon() {
        noClash("a cell between their free cells", "r0121r1163", "13e 15w");
        noClash("their free cells beside each other", "r0121r1153", "13e 14w");
        noClash("rows beside each other", "r0121r1181c13c19", "13e 19e c14 c20");
        noClash("rows that end beside each other", "r0121r1173c13c16", "13e 16w c14 c15");
        noClash("away from each other", "r0133r1141", "12w 15e");
        noClash("round a corner, behind the way", "r0121r1210c13", "13e 15n c14");
    }

    private static void noClash(String what, String items, String due) {
        BeltFloor f = Floors.of(FREE, items + "i00.i10.");
        Check.same(what + ": wouldClash", f.wouldClash(), false);
        f.step(1);
        Check.same(what, Floors.look(f), due);
    }

    private static void pushes() {
        step(FREE, "r0121i00.c13c14", "13e 35n c14 c15", "1 0 2 0, 0 0 0 0");
        step(FREE, "r1121i10.c13c14", "30n 13e c14 c15", "0 0 0 0, 1 0 2 0");
        step(FREE, "r0171i01.c16c15c13", "16e 35n c13 c14 c15", "1 0 2 0, 0 0 0 0");
        step(FREE, "r0302i01.c24c18c12c06", "24s 35n c0 c6 c12 c18", "1 0 4 0, 0 0 0 0");
        // The other robot is pushed as a crate is: it faces as it did, and has not moved by itself.
        step(FREE, "r0121r1132i00.c14", "13e 14s c15", "1 0 2 0, 0 0 0 0");
        step(FREE, "r1121r0132i10.c14", "14s 13e c15", "0 0 0 0, 1 0 2 0");
        step(FREE, "r0302i01.r1241", "24s 18e", "1 0 1 0, 0 0 0 0");
        // Both push in the same step.
        step(FREE, "r0121i00.c13r1233i10.c22", "13e 22w c14 c21", "1 0 1 0, 1 0 1 0");
        BeltFloor f = Floors.of(FREE, "r0121i00.c13c15");
        f.step(3);
        Check.same("it picks up the next one", Floors.look(f), "15e 35n c16 c17");
        Check.same("each as often as it was pushed", Floors.counts(f), "3 0 5 0, 0 0 0 0");
    }

    private static void bumps() {
        BeltFloor f = Floors.of(FREE, "r0000i00.");
        f.step(1);
        Check.same("blocked", Floors.counts(f), "0 1 0 0, 0 0 0 0");
        f.step(40);
        Check.same("again and again", Floors.counts(f), "0 41 0 0, 0 0 0 0");
        step(FREE, "r0002i01.", "0s 35n", "0 1 0 0, 0 0 0 0");
        step(FREE, "r0121r1143i00.i10.", "12e 14w", "0 1 0 0, 0 1 0 0");
        // One that is pushed in the step in which it is blocked has bumped all the same.
        step(FREE, "r0061i00.r1070c01i10.", "7e 8n c1", "1 0 1 0, 0 1 0 0");
        // Who does not want to move has not bumped, whatever stands before it.
        step(FREE, "r0000i05.r1050i12.", "0n 5w", "0 0 0 0, 0 0 0 0");
        step("...... ...... .e.... ...... ...... ......", "r0130r1140", "13n 14n", "0 0 0 0, 0 0 0 0");
    }

    private static void passes() {
        BeltFloor f = Floors.of(FREE, "i00.p18p24p12");
        Check.same("one that is not its next", f.step(1), 0);
        Check.same("its next one", f.step(1), 1);
        Check.same("the one behind the next", f.step(1), 0);
        Check.same("next", f.nextOf(0), 2);
        BeltFloor g = Floors.of(FREE, "r0120r1140p12p14");
        Check.same("one stands there", g.step(1), 1);
        Check.same("next of 0", g.nextOf(0), 2);
        Check.same("next of 1", g.nextOf(1), 1);
        BeltFloor h = Floors.of(FREE, "p30p31");
        Check.same("not before a step", h.nextOf(0), 1);
        h.putRobot(0, 31, 0);
        h.putRobot(0, 30, 0);
        Check.same("not by being put there", h.nextOf(0), 1);
        Check.same("in a step, by waiting", h.step(1), 1);
        Check.same("only once", h.step(40), 0);
        BeltFloor i = Floors.of("...... ...... ...... ...... ...... n....n", "p24p29");
        Check.same("carried to it", i.step(1), 1);
        Check.same("the robot 1 is on the second one, and has not passed the first", i.nextOf(1), 1);
        BeltFloor k = Floors.of(FREE, "r0121r1130i00.p14");
        Check.same("pushed to it", k.step(1), 1);
        Check.same("next of the pushed one", k.nextOf(1), 2);
    }

    private static void nextAtFirst() {
        BeltFloor f = new BeltFloor();
        Check.same("next of 0", f.nextOf(0), 1);
        Check.same("next of 1", f.nextOf(1), 1);
        f.step(40);
        Check.same("next of 0 without a checkpoint", f.nextOf(0), 1);
        f.addCheckpoint(0);
        Check.same("next of 1 with one", f.nextOf(1), 1);
    }

    private static void theFollowingOne() {
        BeltFloor f = Floors.of(FREE, "i00.p24p18p12p06");
        for (int n = 1; n <= 4; n++) {
            Check.same("checkpoints passed in the step " + n, f.step(1), 1);
            Check.same("next", f.nextOf(0), n + 1);
            Check.same("next of the other one", f.nextOf(1), 1);
        }
        Check.same("behind the last one", f.step(40), 0);
        Check.same("next", f.nextOf(0), 5);
        // Two checkpoints are never passed in one step, as each is on a cell of its own.
        BeltFloor g = Floors.of(FREE, "p30");
        g.step(1);
        g.addCheckpoint(31);
        Check.same("the following one is somewhere else", g.step(5), 0);
        Check.same("next", g.nextOf(0), 2);
    }

    private static void homeNeedsACheckpoint() {
        BeltFloor f = Floors.of(FREE, "i00.");
        f.step(5);
        Check.same("home of 0", f.isHome(0), false);
        Check.same("home of 1", f.isHome(1), false);
        f.addCheckpoint(0);
        f.step(1);
        Check.same("with one, passed", f.isHome(0), true);
        f.undo();
        Check.same("with one, not passed", f.isHome(0), false);
    }

    private static void homeNeedsAll() {
        BeltFloor f = Floors.of(FREE, "i00.p24p18p12p06");
        for (int passed = 1; passed <= 3; passed++) {
            f.step(1);
            Check.same("home behind " + passed, f.isHome(0), false);
        }
        f.step(1);
        Check.same("home behind 4", f.isHome(0), true);
        Check.same("home of the other one", f.isHome(1), false);
        BeltFloor g = Floors.of(FREE, "r1240i10.p18");
        g.step(1);
        Check.same("home of 1", g.isHome(1), true);
        Check.same("home of 0", g.isHome(0), false);
        g.addCheckpoint(0);
        Check.same("no more, with one more", g.isHome(1), false);
    }
}
