/** Promises 34 to 40: what would be. */
final class WouldBeTest {
    private static final String FREE = Floors.FREE;
    /** The robot 0 goes along the rows 0, 2 and 4, and is carried back along the rows 1 and 3. */
    private static final String WINDING = ".....s swwwww .....s swwwww .....s ....ww";

    public static void main(String[] args) {
        rowAhead();
        wouldClash();
        passesIn();
        passesInUpTo150();
        loops();
        loopsUpTo120();
        loopsOfAllParts();
        loopsFromLater();
        fewest();
        fewestAgain();
        fewestRoundBlocksAndPits();
        fewestWhatDoesNotMatter();
        fewestWrong();
        nothingChanges();
        Check.end();
    }

    private static void row(String rows, String items, int due) {
        Check.same("rowAhead " + items, Floors.of(rows, items).rowAhead(0), due);
    }

    private static void rowAhead() {
        row(FREE, "", 0);
        row(FREE, "r0002", 0);
        row(FREE, "r0000", -1);
        row(FREE, "r0003", -1);
        row(FREE, "r1340r0351", -1);
        row(FREE, "r1340r0352", -1);
        row(FREE, "r0121c13", 1);
        row(FREE, "r0121c13c14c15c16", 4);
        row(FREE, "r0121c13c14c15c16c17", -1);
        row(FREE, "r0121r1130c14", 2);
        row(FREE, "r0161r1170", -1);
        row(FREE, "r0121c14", 0);
        row(".#.... ...... ...... ...... ...... ......", "r0001", -1);
        row("..#... ...... ...... ...... ...... ......", "r0001c01", -1);
        row("..o... ...... ...... ...... ...... ......", "r0001c01", 1);
        row(".o.... ...... ...... ...... ...... ......", "r0001", 0);
        // Forward, whatever the program says.
        row(FREE, "r0121c13i01.", 1);
        row(FREE, "r0121c13i02.", 1);
        BeltFloor f = Floors.of(FREE, "r1121c13r0140i00.");
        Check.same("rowAhead of the robot 1", f.rowAhead(1), 2);
        Check.same("rowAhead of the robot 0", f.rowAhead(0), 0);
    }

    private static void wouldClash() {
        String meet = "r0121r1143";
        Check.same("both", Floors.of(FREE, meet + "i00.i10.").wouldClash(), true);
        Check.same("both without a program", Floors.of(FREE, meet).wouldClash(), false);
        Check.same("one waits", Floors.of(FREE, meet + "i00.i15.").wouldClash(), false);
        Check.same("the other waits", Floors.of(FREE, meet + "i05.i10.").wouldClash(), false);
        Check.same("one turns", Floors.of(FREE, meet + "i00.i12.").wouldClash(), false);
        Check.same("one goes back", Floors.of(FREE, meet + "i00.i11.").wouldClash(), false);
        Check.same("both back", Floors.of(FREE, "r0123r1141i01.i11.").wouldClash(), true);
        Check.same("one is blocked", Floors.of(FREE, "r0121r1133i00.i10.").wouldClash(), false);
        Check.same("both are blocked",
                Floors.of(FREE, "r0121r1173c13c14c15c16i00.i10.").wouldClash(), false);
        BeltFloor f = Floors.of(FREE, meet + "i050.i150.");
        Check.same("not yet", f.wouldClash(), false);
        f.step(1);
        Check.same("now", f.wouldClash(), true);
        f.step(1);
        Check.same("not now", f.wouldClash(), false);
    }

    private static void passesIn() {
        BeltFloor f = Floors.of(FREE, "i00.i135350.p18p34");
        Check.same("without the right way", f.passesIn(1), -1);
        Check.same("the first one", f.passesIn(0), 2);
        f.step(1);
        Check.same("one step later", f.passesIn(0), 1);
        f.step(1);
        Check.same("the second one is not reached", f.passesIn(0), -1);
        Check.same("no checkpoints", new BeltFloor().passesIn(0), -1);
        f = Floors.of(FREE, "p30");
        Check.same("it is there", f.passesIn(0), 1);
        f.step(1);
        Check.same("it is home", f.passesIn(0), -1);
        Check.same("the other one", f.passesIn(1), -1);
        f = Floors.of(FREE, "r0061i00.i14.r1170p08");
        Check.same("two steps", f.passesIn(0), 2);
        f = Floors.of(FREE, "r0121i00.r1130p17");
        Check.same("pushed to it", f.passesIn(1), 4);
        Check.same("the pushing one", f.passesIn(0), -1);
    }

    private static void passesInUpTo150() {
        BeltFloor f = Floors.of(WINDING, "r0001r1300i05555555550.p35p34");
        Check.same("in the last step", f.passesIn(0), 150);
        f.step(1);
        Check.same("one less", f.passesIn(0), 149);
        BeltFloor g = Floors.of(WINDING, "r0001r1300i05555555550.p34");
        Check.same("too late by one", g.passesIn(0), -1);
        g.step(1);
        Check.same("in the last step", g.passesIn(0), 150);
    }

    private static void loop(String what, BeltFloor f, int due) {
        String before = Floors.picture(f);
        Check.same("loopByWaiting " + what, f.loopByWaiting(), due);
        Check.same("loopByKeeping " + what, f.loopByKeeping(), due);
        Check.same("loopByWaiting again " + what, f.loopByWaiting(), due);
        Check.same("the floor stays " + what, Floors.picture(f).equals(before), true);
    }

    private static void loop(String items, int due) {
        loop(items, Floors.of(FREE, items), due);
    }

    private static void loops() {
        loop("", 1);
        loop("i05.", 1);
        loop("i00.i10.", 1);
        loop("i04.", 2);
        loop("i13.", 4);
        loop("i0555.", 3);
        loop("i1555.", 3);
        loop("i0555.i155.", 6);
        loop("i0555.i13.", 12);
        loop("i005.", 2);
        loop("i001.i155555.", 10);
    }

    private static void loopsUpTo120() {
        loop("i03555555555.i1555.", 120);
        loop("i1555.i03555555555.", 120);
        loop("i04555555555.i155555555.", 40);
        loop("i03555555555.i1555555555.", -1);
        loop("i04555555555.i1555555.", 60);
        loop("i04555555555.i15555555.", -1);
        loop("i05555555555.i1555555555.", 90);
        loop("i03555555.i155555.", -1);
    }

    private static void loopsOfAllParts() {
        // The cells of crates alone are different: they go round on a ring of belts.
        loop("a ring", Floors.of("es.... nw.... ...... ...... ...... ......", "c00"), 4);
        loop("a ring of two", Floors.of("es.... nw.... ...... ...... ...... ......", "c00c07"), 2);
        loop("a ring of three", Floors.of("es.... nw.... ...... ...... ...... ......", "c00c01c07"), 4);
        loop("a full ring", Floors.of("es.... nw.... ...... ...... ...... ......", "c00c01c06c07"), 1);
        loop("to and fro", Floors.of("...... .ew... ...... ...... ...... ......", "c08"), 2);
        // The cells of robots.
        loop("a robot in a ring", Floors.of("es.... nw.... ...... ...... ...... ......", "r0000c07"), 4);
        loop("robots in a ring", Floors.of("es.... nw.... ...... ...... ...... ......", "r0000r1070"), 4);
        loop("the robot 1 in a ring", Floors.of("es.... nw.... ...... ...... ...... ......", "r1000"), 4);
        // A long ring round the floor.
        loop("round the floor", Floors.of("eeeees n....s n....s n....s n....s nwwwww", "c00"), 20);
        // A path of a robot through pits.
        loop("falling once", Floors.of("...... ...... ...... ...... .o.... ......", "r0241i00."), 1);
        loop("falling again and again", Floors.of(".o.... ...... ...... ...... ...... ......", "r0000i030."), 2);
    }

    private static void loopsFromLater() {
        // In 120 steps, all checkpoints are passed and all crates are lost: they do not come again.
        loop("a checkpoint soon", Floors.of(FREE, "i00.p00"), 1);
        loop("a crate falls soon", Floors.of("...... .eeeo. ...... ...... ...... ......", "c07"), 1);
        // A checkpoint that is passed behind 120 steps: the floors before it and behind it are different.
        BeltFloor f = Floors.of(WINDING, "r0001r1300i05555555550.p35");
        Check.same("it is passed behind 120", f.passesIn(0), 150);
        loop("a checkpoint late", f, -1);
        // Rounds of 40 steps, with the last checkpoint in the step 121.
        loop("i00555555553.", 40);
        loop("i00555555553.p30p31p25p24", -1);
        loop("i00555555553.p30p31p25", 40);
        loop("i10555555552.", 40);
        loop("i10555555552.p35p34p28p29", -1);
        loop("i10555555552.p35p34p28", 40);
        BeltFloor g = Floors.of(FREE, "i04.p24");
        loop("a checkpoint never", g, 2);
    }

    private static void fewest(BeltFloor f, int robot, int cell, int due) {
        Check.same("fewestBySpreading " + robot + " " + cell, f.fewestBySpreading(robot, cell), due);
        Check.same("fewestBySweeping " + robot + " " + cell, f.fewestBySweeping(robot, cell), due);
    }

    private static void fewest() {
        BeltFloor f = new BeltFloor();
        int[] fromTheCorner = {
            5, 7, 8, 9, 10, 11,
            4, 6, 7, 8, 9, 10,
            3, 5, 6, 7, 8, 9,
            2, 4, 5, 6, 7, 8,
            1, 3, 4, 5, 6, 7,
            0, 2, 3, 4, 5, 6};
        int[] fromTheMiddle = {
            5, 4, 2, 4, 5, 6,
            4, 3, 1, 3, 4, 5,
            3, 2, 0, 2, 3, 4,
            4, 3, 1, 3, 4, 5,
            5, 4, 2, 4, 5, 6,
            6, 5, 3, 5, 6, 7};
        BeltFloor g = Floors.of(FREE, "r0142");
        for (int cell = 0; cell < 36; cell++) {
            fewest(f, 0, cell, fromTheCorner[cell]);
            fewest(g, 0, cell, fromTheMiddle[cell]);
        }
        fewest(f, 1, 30, 6);
        fewest(f, 1, 0, 11);
        fewest(f, 1, 5, 5);
        fewest(f, 1, 35, 0);
        BeltFloor h = Floors.of(FREE, "r0141");
        fewest(h, 0, 17, 3);
        fewest(h, 0, 12, 2);
        fewest(h, 0, 2, 3);
        fewest(h, 0, 32, 4);
    }

    /** Neither way may lean on what was found before. */
    private static void fewestAgain() {
        BeltFloor f = new BeltFloor();
        Check.same("sweeping", f.fewestBySweeping(0, 35), 6);
        f.putRobot(0, 0, 2);
        Check.same("sweeping from elsewhere", f.fewestBySweeping(0, 35), 11);
        f.setKind(1, 1);
        f.setKind(6, 1);
        Check.same("sweeping with blocks round it", f.fewestBySweeping(0, 35), -1);
        f.undo();
        f.undo();
        Check.same("spreading from elsewhere", f.fewestBySpreading(0, 35), 11);
        f.setKind(1, 2);
        f.setKind(6, 2);
        Check.same("spreading with pits round it", f.fewestBySpreading(0, 35), -1);
        Check.same("spreading for the other one", f.fewestBySpreading(1, 34), 2);
        Check.same("sweeping for the other one", f.fewestBySweeping(1, 34), 2);
    }

    private static void fewestRoundBlocksAndPits() {
        for (String hole : new String[] {"#", "o"}) {
            BeltFloor f = Floors.of("......  .###.. .#.#.. .###.. ...... ......".replace("#", hole), "");
            fewest(f, 0, 14, -1);
            fewest(f, 0, 8, -1);
            fewest(f, 0, 7, -1);
            fewest(f, 0, 6, 4);
            BeltFloor g = Floors.of(".#.... .#.#.. .#.#.. .#.#.. .#.#.. ...#..".replace("#", hole), "r0000");
            fewest(g, 0, 30, 5);
            fewest(g, 0, 31, 7);
            fewest(g, 0, 32, 8);
            fewest(g, 0, 2, 14);
            fewest(g, 0, 5, 18);
            fewest(g, 0, 35, 24);
            BeltFloor h = Floors.of("..#... ##.... ...... ...... ...... ......".replace("#", hole), "r0001");
            fewest(h, 0, 0, 0);
            fewest(h, 0, 1, 1);
            fewest(h, 0, 2, -1);
            fewest(h, 0, 3, -1);
            fewest(h, 0, 12, -1);
        }
    }

    private static void fewestWhatDoesNotMatter() {
        // Belts, crates, checkpoints, programs and the other robot do not matter.
        BeltFloor f = Floors.of("wwwwww ssssss nnnnnn eeeeee ssssss eeeeee", "c24c18c31p12p25r1290i03.");
        BeltFloor g = new BeltFloor();
        for (int cell = 0; cell < 36; cell++) {
            int due = g.fewestBySpreading(0, cell);
            fewest(f, 0, cell, due);
        }
        BeltFloor h = Floors.of(FREE, "r1240");
        fewest(h, 0, 18, 2);
        fewest(h, 0, 24, 1);
    }

    private static void fewestWrong() {
        BeltFloor f = new BeltFloor();
        for (int cell : new int[] {-1, 36, Integer.MIN_VALUE, Integer.MAX_VALUE}) {
            Check.noCell("fewestBySpreading to " + cell, () -> f.fewestBySpreading(0, cell));
            Check.noCell("fewestBySweeping to " + cell, () -> f.fewestBySweeping(1, cell));
        }
    }

    private static void nothingChanges() {
        BeltFloor f = Floors.of(WINDING, "r0001r1300i0004.i1001.p05p17c08c13");
        f.addCrate(20);
        f.step(3);
        String before = Floors.picture(f);
        f.rowAhead(0);
        f.wouldClash();
        f.passesIn(0);
        f.passesIn(1);
        f.loopByWaiting();
        f.loopByKeeping();
        f.fewestBySpreading(0, 33);
        f.fewestBySweeping(1, 3);
        Check.same("the floor stays", Floors.picture(f).equals(before), true);
        Check.same("they are no actions", f.undo(), 1);
        Check.badState("they save nothing", () -> f.restore(0));
    }
}
