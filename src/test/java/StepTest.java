/** Promise 32: what happens in a step. */
final class StepTest {
    private static final String FREE = Floors.FREE;

    public static void main(String[] args) {
        instructions();
        edges();
        rows();
        rowsWithTheOtherRobot();
        clashes();
        noClashes();
        belts();
        beltsThatDoNotCarry();
        beltsInRows();
        beltsInRings();
        beltsAndRobots();
        cratesInPits();
        robotsInPits();
        noCellToComeTo();
        checkpoints();
        checkpointsAtTheEnd();
        Check.end();
    }

    private static void looks(String what, BeltFloor f, String due) {
        Check.same(what, Floors.look(f), due);
    }

    private static void after(String rows, String items, int steps, String due) {
        BeltFloor f = Floors.of(rows, items);
        f.step(steps);
        looks(rows + " " + items + " after " + steps, f, due);
    }

    private static void afterOne(String rows, String items, String due) {
        after(rows, items, 1, due);
    }

    private static void instructions() {
        for (int facing = 0; facing < 4; facing++) {
            String put = "r014" + facing + "r100" + facing;
            char same = "nesw".charAt(facing);
            String other = " 0" + same;
            int ahead = new int[] {8, 15, 20, 13}[facing];
            int behind = new int[] {20, 13, 8, 15}[facing];
            afterOne(FREE, put + "i00.", "" + ahead + same + other);
            afterOne(FREE, put + "i01.", "" + behind + same + other);
            afterOne(FREE, put + "i02.", "14" + "wnes".charAt(facing) + other);
            afterOne(FREE, put + "i03.", "14" + "eswn".charAt(facing) + other);
            afterOne(FREE, put + "i04.", "14" + "swne".charAt(facing) + other);
            afterOne(FREE, put + "i05.", "14" + same + other);
            afterOne(FREE, put, "14" + same + other);
        }
        after(FREE, "i0030.i11.r1052", 2, "24e 5s");
        after(FREE, "i0030.i11.r1052", 3, "25e 5s");
        after(FREE, "i0030.", 4, "26e 35n");
        after(FREE, "i0030.i14230.", 5, "26s 35n");
    }

    private static void edges() {
        int[] edge = {2, 17, 33, 18};
        for (int facing = 0; facing < 4; facing++) {
            String two = (edge[facing] < 10 ? "0" : "") + edge[facing];
            BeltFloor f = Floors.of(Floors.EMPTY + "r0" + two + facing + "i00.r114" + (facing + 2) % 4);
            f.step(1);
            Check.same("cell", f.cellOf(0), edge[facing]);
            Check.same("bumps", f.bumpsOf(0), 1);
            Check.same("moves", f.movesOf(0), 0);
            Check.same("place", f.placeOf(0), 0);
            f = Floors.of(Floors.EMPTY + "r0" + two + (facing + 2) % 4 + "i01.r1140");
            f.step(3);
            Check.same("cell", f.cellOf(0), edge[facing]);
            Check.same("bumps", f.bumpsOf(0), 3);
            Check.same("facing", f.facingOf(0), (facing + 2) % 4);
        }
        BeltFloor f = Floors.of(".#.... ...... ...... ...... ...... ......", "r0001i00.i15.");
        f.step(1);
        Check.same("before a block", f.cellOf(0), 0);
        Check.same("bumps", f.bumpsOf(0), 1);
        Check.same("bumps of who waits", f.bumpsOf(1), 0);
    }

    private static void rows() {
        BeltFloor f = Floors.of(FREE, "r0121i00.c13c14c16");
        f.step(1);
        looks("a row of two", f, "13e 35n c14 c15 c16");
        Check.same("pushes", f.pushesOf(0), 2);
        f.step(1);
        looks("a row of three", f, "14e 35n c15 c16 c17");
        Check.same("pushes", f.pushesOf(0), 5);
        f.step(1);
        looks("a row at the edge", f, "14e 35n c15 c16 c17");
        Check.same("pushes", f.pushesOf(0), 5);
        Check.same("moves", f.movesOf(0), 2);
        Check.same("bumps", f.bumpsOf(0), 1);
        afterOne(FREE, "r0121i00.c13c14c15c16c17", "12e 35n c13 c14 c15 c16 c17");
        afterOne(FREE, "r0121i00.c13c14c15c16", "13e 35n c14 c15 c16 c17");
        afterOne("...... ...... ...#.. ...... ...... ......", "r0121i00.c13c14", "12e 35n c13 c14");
        afterOne(FREE, "r0283i00.c27c25c24", "27w 35n c24 c25 c26");
        afterOne(FREE, "r0300i00.c24c18c06", "24n 35n c6 c12 c18");
        afterOne(FREE, "r0302i01.c24c18c12c06", "24s 35n c0 c6 c12 c18");
        afterOne(FREE, "r0302i01.c24c18c12c06c00", "30s 35n c0 c6 c12 c18 c24");
        afterOne(FREE, "r0002i00.c06c12", "6s 35n c12 c18");
        afterOne(FREE, "r0171i01.c16c15c04c28", "16e 35n c4 c14 c15 c28");
    }

    private static void rowsWithTheOtherRobot() {
        BeltFloor f = Floors.of(FREE, "r0121r1130i00.c14");
        f.step(1);
        looks("a robot and a crate", f, "13e 14n c15");
        Check.same("pushes", f.pushesOf(0), 2);
        Check.same("moves of the pushed one", f.movesOf(1), 0);
        Check.same("bumps of the pushed one", f.bumpsOf(1), 0);
        Check.same("pushes of the pushed one", f.pushesOf(1), 0);
        afterOne(FREE, "r1121r0130i10.c14", "14n 13e c15");
        afterOne(FREE, "r0121r1142i00.c13c15", "13e 15s c14 c16");
        afterOne(FREE, "r0121r1130i00.i12.", "13e 14w");
        // It faces away from a wall and wants to go into a block: it bumps, and is pushed.
        f = Floors.of(".#.... ...... ...... ...... ...... ......", "r0061r1070i00.i10.");
        f.step(1);
        looks("the blocked one is pushed", f, "7e 8n");
        Check.same("moves of 0", f.movesOf(0), 1);
        Check.same("bumps of 0", f.bumpsOf(0), 0);
        Check.same("pushes of 0", f.pushesOf(0), 1);
        Check.same("bumps of 1", f.bumpsOf(1), 1);
        Check.same("moves of 1", f.movesOf(1), 0);
        afterOne(".#.... ...... ...... ...... ...... ......", "r1061r0070i00.i10.", "8n 7e");
        afterOne(FREE, "r0121r1133i00.i10.", "13e 14w");
        afterOne(FREE, "r0161r1170i00.", "16e 17n");
    }

    private static void clash(String rows, String items, String due) {
        BeltFloor f = Floors.of(rows, items);
        Check.same("wouldClash " + items, f.wouldClash(), true);
        f.step(1);
        looks("clash " + items, f, due);
        for (int robot = 0; robot < 2; robot++) {
            Check.same("bumps of " + robot, f.bumpsOf(robot), 1);
            Check.same("moves of " + robot, f.movesOf(robot), 0);
            Check.same("pushes of " + robot, f.pushesOf(robot), 0);
        }
    }

    private static void clashes() {
        clash(FREE, "r0121r1143i00.i10.", "12e 14w");
        clash(FREE, "r0123r1143i01.i10.", "12w 14w");
        clash(FREE, "r0131r1143i00.i10.", "13e 14w");
        clash(FREE, "r0131r1121i00.i10.", "13e 12e");
        clash(FREE, "r0130r1121i00.i10.", "13n 12e");
        clash(FREE, "r0121r1072i00.i10.c13", "12e 7s c13");
        clash(FREE, "r0121r1020i00.i11.c13c14c08", "12e 2n c8 c13 c14");
        clash(FREE, "r0121r1173i00.i10.c13c14c16", "12e 17w c13 c14 c16");
        clash("...... ...... ..o... ...... ...... ......", "r0131r1153i00.i10.", "13e 15w");
    }

    private static void noClash(String rows, String items, String due) {
        BeltFloor f = Floors.of(rows, items);
        Check.same("wouldClash " + items, f.wouldClash(), false);
        f.step(1);
        looks("no clash " + items, f, due);
    }

    private static void noClashes() {
        noClash(FREE, "r0121r1153i00.i10.", "13e 14w");
        noClash(FREE, "r0121r1183i00.i14.c13", "13e 18e c14");
        noClash(FREE, "r0121r1181i00.i10.c13c19", "13e 19e c14 c20");
        noClash(FREE, "r0121r1173i00.i10.c13c16", "13e 16w c14 c15");
        noClash(FREE, "r0121r1143i00.i11.", "13e 15w");
        noClash(FREE, "r0121r1143i00.i15.c13", "13e 15w c14");
        // The robot 0 is blocked: it holds nobody up.
        noClash(FREE, "r0121r1082i00.i10.c13c14c15c16c17", "12e 14s c13 c15 c16 c17 c20");
        noClash(FREE, "r0010r1061i00.i15.", "1n 6e");
    }

    private static void belts() {
        afterOne("...... .n.... ...... ...... ...... ......", "c07", "30n 35n c1");
        afterOne("...... .e.... ...... ...... ...... ......", "c07", "30n 35n c8");
        afterOne("...... .s.... ...... ...... ...... ......", "c07", "30n 35n c13");
        afterOne("...... .w.... ...... ...... ...... ......", "c07", "30n 35n c6");
        after("...... .eee.. ...... ...... ...... ......", "c07", 2, "30n 35n c9");
        after("...... .eee.. ...... ...... ...... ......", "c07", 40, "30n 35n c10");
        after("...... .es... .nw... ...... ...... ......", "c07", 3, "30n 35n c13");
        after("...... .es... .nw... ...... ...... ......", "c07", 5, "30n 35n c8");
        BeltFloor f = Floors.of("...... ...... ...... ...... ...... n....w", "");
        f.step(1);
        looks("robots", f, "24n 34n");
        Check.same("moves of 0", f.movesOf(0), 0);
        Check.same("bumps of 1", f.bumpsOf(1), 0);
        Check.same("pushes of 1", f.pushesOf(1), 0);
    }

    private static void beltsThatDoNotCarry() {
        afterOne(".n.... w....e ...... ...... ...... .s....", "c01c06c11c31", "30n 35n c1 c6 c11 c31");
        afterOne("..#... .#n#.. .w.e.. .#s#.. ..#... ......", "c08c13c15c20", "30n 35n c8 c12 c16 c20");
        afterOne("...... .e.... ...... ...... ...... ......", "c07c08", "30n 35n c7 c8");
        afterOne("...... .e.w.. ...... ...... ...... ......", "c07c09", "30n 35n c7 c9");
        afterOne("...... .e.w.. ...... ...... ...... ......", "c07", "30n 35n c8");
        afterOne("..s... .e.w.. ..n... ...... ...... ......", "c02c07c09c14", "30n 35n c2 c7 c9 c14");
        afterOne("...... .ew... ...... ...... ...... ......", "c07c08", "30n 35n c7 c8");
        after("...... .ew... ...... ...... ...... ......", "c07", 1, "30n 35n c8");
        after("...... .ew... ...... ...... ...... ......", "c07", 2, "30n 35n c7");
        afterOne("...... .s.... .n.... ...... ...... ......", "c07c13", "30n 35n c7 c13");
        afterOne("...... ...... ...... ...... ...... n...e.", "c34", "24n 35n c34");
    }

    private static void beltsInRows() {
        afterOne("...... eee... ...... ...... ...... ......", "c06c07c08", "30n 35n c7 c8 c9");
        afterOne("...... eee... ...... ...... ...... ......", "c06c07c08c09", "30n 35n c6 c7 c8 c9");
        afterOne("...... eee#.. ...... ...... ...... ......", "c06c07c08", "30n 35n c6 c7 c8");
        afterOne("...... www... ...... ...... ...... ......", "c07c08", "30n 35n c6 c7");
        afterOne("...... www... ...... ...... ...... ......", "c06c07c08", "30n 35n c6 c7 c8");
        afterOne("...... eee... ...... ...... ...... ......", "c06c08", "30n 35n c7 c9");
        afterOne("eee... ...... ...... ...... ...... ......", "c00c01c02c03", "30n 35n c0 c1 c2 c3");
        afterOne("eee... ...... ...... ...... ...... ......", "c00c01c02", "30n 35n c1 c2 c3");
        afterOne("...... ...... ...... .....s .....s .....s", "r1340c35c29c23", "30n 34n c23 c29 c35");
        afterOne("...... ...... ...... .....n .....n .....n", "c29c23", "30n 29n c17 c23");
        // Two want to the same cell: they are not carried, nor are those behind them.
        afterOne("...... ee.ww. ...... ...... ...... ......", "c06c07c09c10", "30n 35n c6 c7 c9 c10");
        afterOne("...... ee.ww. ...... ...... ...... ......", "c06c07c10", "30n 35n c7 c8 c9");
        afterOne("...... eew... ...... ...... ...... ......", "c06c07c08", "30n 35n c6 c7 c8");
        // Two want to the cell of a thing that is carried away.
        afterOne("..s... .eew.. ...... ...... ...... ......", "c07c08", "30n 35n c8 c9");
        afterOne("..s... .ee... ...... ...... ...... ......", "c02c07c08", "30n 35n c2 c7 c9");
        afterOne("s..... s..... s..... s..... s..... .....s", "r0340c00c06c12c18c24", "34n 35n c6 c12 c18 c24 c30");
        afterOne("...... n..... n..... n..... n..... n.....", "c06c12c18c24", "24n 35n c0 c6 c12 c18");
        // Another row joins the first one in its middle.
        afterOne("...... eee... .n.... ...... ...... ......", "c06c07c08c13", "30n 35n c6 c8 c9 c13");
    }

    private static void beltsInRings() {
        afterOne("es.... nw.... ...... ...... ...... ......", "c00c01c06c07", "30n 35n c0 c1 c6 c7");
        BeltFloor f = Floors.of("es.... nw.... ...... ...... ...... ......", "r0002c01c06r1073");
        f.step(1);
        looks("a full ring", f, "1s 6w c0 c7");
        f.step(1);
        looks("a full ring", f, "7s 0w c1 c6");
        f.step(2);
        looks("a full ring", f, "0s 7w c1 c6");
        Check.same("moves", f.movesOf(0), 0);
        afterOne("es.... nw.... ...... ...... ...... ......", "c00c01c06", "30n 35n c0 c1 c7");
        // A thing beside the ring wants to come into it, too: then none is carried.
        afterOne("esw... nw.... ...... ...... ...... ......", "c00c01c02c06c07", "30n 35n c0 c1 c2 c6 c7");
        afterOne("esw... nw.... ...... ...... ...... ......", "c01c02c06c07", "30n 35n c0 c1 c6 c7");
        // A robot that goes by itself into the ring is a part of it in the same step.
        afterOne("es.... nw.... ...... ...... ...... ......", "r0023c00c06c07i00.", "7w 35n c0 c1 c6");
        afterOne("eeeees n....s n....s n....s n....s nwwwww", "c00c05c10c03", "24n 34n c1 c4 c10 c11");
    }

    private static void beltsAndRobots() {
        // It goes onto a belt, and is carried in the same step; it faces as it did.
        afterOne("...... ...... .s.... ...... ...... ......", "r0121i00.", "19e 35n");
        afterOne("...... ...... e..... ...... ...... ......", "r0121i00.", "13e 35n");
        afterOne("...... ...... e..... ...... ...... ......", "r0120i03.", "13e 35n");
        afterOne("...... ...... e..... ...... ...... ......", "r0120r1130", "12n 13n");
        afterOne("...... ...... ee.... ...... ...... ......", "r0120r1130", "13n 14n");
        // Belts carry what was pushed onto them.
        afterOne("...... ...... ..n... ...... ...... ......", "r0121i00.c13", "13e 35n c8");
        afterOne("...... ...... .ww... ...... ...... ......", "r0121i00.c13", "12e 35n c13");
        // A clash does not hold the belts up.
        afterOne("...... ...... s.s... ...... ...... ......", "r0121r1143i00.i10.", "18e 20w");
    }

    private static void cratesInPits() {
        BeltFloor f = Floors.of("...... ...... ...o.. ...... ...... ......", "r0121i00.c13c14");
        f.step(1);
        looks("a crate pushed into a pit", f, "13e 35n c14");
        Check.same("lost", f.lost(), 1);
        Check.same("by cells", f.cratesByCells(), 1);
        Check.same("by accounts", f.cratesByAccounts(), 1);
        f.step(1);
        looks("another one", f, "14e 35n");
        Check.same("lost", f.lost(), 2);
        Check.same("pushes", f.pushesOf(0), 3);
        f = Floors.of("...... ...... .eo... ...... ...... ......", "c13");
        f.step(1);
        Check.same("carried into a pit", f.lost(), 1);
        Check.same("by cells", f.cratesByCells(), 0);
        f = Floors.of("...... ...... .eo... ..n... ...... ......", "c13");
        f.addCrate(20);
        f.step(1);
        Check.same("none is carried to the same pit", f.lost(), 0);
    }

    private static void robotsInPits() {
        BeltFloor f = Floors.of("#noe.. ...... ...... ...... ...... ......", "c04r0133i00.r1232i10.");
        f.setKind(12, 2);
        f.setKind(29, 2);
        f.step(1);
        looks("both fall, the robot 0 first", f, "5n 6n c4");
        Check.same("falls of 0", f.fallsOf(0), 1);
        Check.same("falls of 1", f.fallsOf(1), 1);
        Check.same("moves of 0", f.movesOf(0), 1);
        Check.same("steps", f.steps(), 1);
        f = Floors.of("...... ...... .e.... ...... ...... ......", "c00r0132");
        f.setKind(14, 2);
        f.step(1);
        looks("carried into a pit", f, "1n 35n c0");
        f = Floors.of("...... ...... ..o... ...... ...... ......", "r0121r1132i00.");
        f.step(1);
        looks("pushed into a pit", f, "13e 0n");
        Check.same("falls of 1", f.fallsOf(1), 1);
        Check.same("falls of 0", f.fallsOf(0), 0);
        f = Floors.of("...... ...... ..o... ...... ...... ......", "r0131r1202i02.");
        f.step(1);
        looks("beside a pit none falls", f, "13n 20s");
    }

    private static void noCellToComeTo() {
        // The robot 0 is carried onto a pit, and only the cell under the robot 1 is floor.
        BeltFloor f = Floors.of("###### ###### ###### ###### o##### n####.", "r0301i02.");
        f.step(1);
        looks("it stays on the pit", f, "24n 35n");
        Check.same("falls", f.fallsOf(0), 1);
        Check.badState("onto its own pit", () -> f.putRobot(0, 24, 0));
        Check.badState("a pit under a robot", () -> f.setKind(24, 2));
        f.step(1);
        looks("it falls again, facing north", f, "24n 35n");
        Check.same("falls", f.fallsOf(0), 2);
        Check.same("fewest to its own cell", f.fewestBySpreading(0, 24), 0);
        Check.same("fewest to its own cell", f.fewestBySweeping(0, 24), 0);
        Check.same("fewest to the belt", f.fewestBySpreading(0, 30), 1);
        Check.same("fewest to the belt", f.fewestBySweeping(0, 30), 1);
        f.setKind(3, 5);
        f.step(1);
        looks("a belt is no floor", f, "24n 35n");
        f.setKind(0, 0);
        f.step(1);
        looks("it comes to the floor", f, "0n 35n");
        Check.same("falls", f.fallsOf(0), 4);

        // The other robot takes the last cell; or a crate lies there.
        BeltFloor h = Floors.of("###### .##### ###### ###### o####o n####n", "");
        h.step(1);
        looks("the robot 0 comes first", h, "6n 29n");
        Check.same("falls of 0", h.fallsOf(0), 1);
        Check.same("falls of 1", h.fallsOf(1), 1);
        h = Floors.of("###### .##### ###### ###### o####o n####n", "c06");
        h.step(1);
        looks("a crate is on the only floor", h, "24n 29n c6");
        // A row goes over a robot on a pit.
        h = Floors.of("###### ###### ###### ###### nonn## wn###e", "r0310r1263i150.");
        h.step(1);
        looks("a robot on a pit", h, "25n 26w");
        Check.same("row", h.rowAhead(1), 1);
        h.step(1);
        looks("it is pushed off the pit", h, "24n 25n");
        Check.same("pushes", h.pushesOf(1), 1);
        Check.same("falls of 0", h.fallsOf(0), 1);
        Check.same("falls of 1", h.fallsOf(1), 1);
    }

    private static void checkpoints() {
        BeltFloor f = Floors.of(FREE, "i00.p18p24p12p30");
        Check.same("the second one is not passed first", f.step(1), 0);
        Check.same("next", f.nextOf(0), 1);
        Check.same("the first one", f.step(1), 1);
        Check.same("next", f.nextOf(0), 2);
        Check.same("the third one is not passed", f.step(1), 0);
        f.wipe(0);
        f.write(0, 1);
        Check.same("back", f.step(2), 1);
        Check.same("next", f.nextOf(0), 3);
        Check.same("on and on", f.step(5), 0);
        f.putRobot(0, 12, 0);
        Check.same("a robot that was put there", f.step(1), 0);
        f.wipe(0);
        f.putRobot(0, 12, 0);
        Check.same("a robot that was put there and waits", f.step(1), 1);
        Check.same("next of the other one", f.nextOf(1), 1);
        f = Floors.of(FREE, "i00.i10.p24p25p18p23");
        Check.same("the second one is off its path", f.step(10), 1);
        f = Floors.of(FREE, "r0061r1083i00.i15.p07p08");
        Check.same("one on the first, one on the second", f.step(1), 1);
        Check.same("next of 0", f.nextOf(0), 2);
        Check.same("next of 1", f.nextOf(1), 1);
        f = Floors.of(FREE, "r0120r1140p12p14");
        Check.same("it waits on the first one", f.step(1), 1);
        f.putRobot(0, 20, 0);
        f.putRobot(1, 12, 0);
        Check.same("the other one passes it, too", f.step(1), 1);
        f.putRobot(1, 14, 0);
        Check.same("and the second one", f.step(3), 1);
        Check.same("home", f.isHome(1), true);
        Check.same("home", f.isHome(0), false);
        Check.same("nothing more to pass", f.step(40), 0);
        f = Floors.of(FREE, "r0120r1140p14p12");
        f.step(1);
        f.putRobot(0, 13, 0);
        f.putRobot(1, 12, 0);
        f.putRobot(0, 14, 0);
        Check.same("both pass theirs in one step", f.step(1), 2);
    }

    private static void checkpointsAtTheEnd() {
        // It goes over the checkpoint, but a belt carries it on: it is not passed.
        BeltFloor f = Floors.of("...... ...... .s.... ...... ...... ......", "r0121i00.p13p19");
        Check.same("carried away from it", f.step(1), 0);
        f = Floors.of("...... ...... .s.... ...... ...... ......", "r0121i00.p19");
        Check.same("carried to it", f.step(1), 1);
        f = Floors.of("...... ...... .o.... ...... ...... ......", "r0121i00.p00p01");
        Check.same("fallen to it", f.step(1), 1);
        f = Floors.of(FREE, "r0121r1130i00.p14");
        Check.same("pushed to it", f.step(1), 1);
        Check.same("next of the pushed one", f.nextOf(1), 2);
        Check.same("next of the pushing one", f.nextOf(0), 1);
        f = Floors.of("...... ...... .es... .nw... ...... ......", "r0130r1200p13p14p20p19");
        Check.same("a ring of belts", f.step(1), 0);
        Check.same("a ring of belts", f.step(7), 8);
        Check.same("home", f.isHome(0) && f.isHome(1), true);
    }
}
