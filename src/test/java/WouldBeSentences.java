import java.util.List;
import java.util.Random;

/** The sentences of the promises 34 to 40, and that what would be changes nothing. */
final class WouldBeSentences {
    private static final String FREE = Floors.FREE;
    private static final String NO_ROBOT = "Throws `IndexOutOfBoundsException` if there is no such robot";
    private static final String NO_ROBOT_OR_CELL = "Throws `IndexOutOfBoundsException` if there is no such robot or cell";
    private static final String RING = "es.... nw.... ...... ...... ...... ......";
    /** The robot 0 goes along the rows 0, 2 and 4, and is carried back along the rows 1 and 3. */
    private static final String WINDING = ".....s swwwww .....s swwwww .....s ....ww";

    private WouldBeSentences() {
    }

    static void all() {
        Doc.says("what would be", "these and all following methods up to the save slots change nothing.",
                WouldBeSentences::changeNothing);
        ahead();
        passing();
        loops();
        fewest();
    }

    private static void changeNothing() {
        List<Whole.Call> calls = List.of(f -> f.rowAhead(0), f -> f.rowAhead(1), f -> f.wouldClash() ? 1 : 0,
                f -> f.passesIn(0), f -> f.passesIn(1), BeltFloor::loopByWaiting, BeltFloor::loopByKeeping,
                f -> f.fewestBySpreading(0, 0), f -> f.fewestBySpreading(1, 35), f -> f.fewestBySweeping(0, 35),
                f -> f.fewestBySweeping(1, 0), f -> f.simulate(3L, 60), f -> f.simulate(-1L, 1));
        for (Whole.Call call : calls) {
            Whole.keeps("call " + calls.indexOf(call), call, Whole.ALL);
        }
        // Nor does one of them change what another one answers.
        for (Whole.Call before : calls) {
            for (Whole.Call behind : calls) {
                BeltFloor f = Whole.after(Whole.BUSY);
                before.on(f);
                Check.same(calls.indexOf(before) + " before " + calls.indexOf(behind), behind.on(f),
                        behind.on(Whole.after(Whole.BUSY)));
            }
        }
    }

    private static void noSuchRobot(String what, QueryOfRobot call) {
        for (int robot : Floors.WRONG_ROBOTS) {
            Whole.refusesIndex(what + " " + robot, f -> call.of(f, robot));
        }
    }

    private interface QueryOfRobot {
        long of(BeltFloor f, int robot);
    }

    // ---- rowAhead and wouldClash

    private static void ahead() {
        Doc.promise(34, "Tells how many things are in the row of a robot that goes forward now.", WouldBeSentences::rows);
        Doc.promise(34, "`robot`: 0 or 1", WouldBeSentences::rowsOfBoth);
        Doc.promise(34, "Returns how many;", WouldBeSentences::howMany);
        Doc.promise(34, "NONE if it would be blocked.", WouldBeSentences::blocked);
        Doc.promise(34, NO_ROBOT, () -> noSuchRobot("rowAhead", BeltFloor::rowAhead));
        Doc.promise(35, "Tells whether the robots would clash in the next step.", WouldBeSentences::clashes);
    }

    private static void row(String rows, String items, int due) {
        Check.same("rowAhead " + items, Floors.of(rows, items).rowAhead(0), due);
    }

    private static void rows() {
        row(FREE, "r0121c13c14", 2);
        row(FREE, "r0121c13r1142", 2);
        row(FREE, "r0121c14", 0);
        row(FREE, "r0121c13c15", 1);
        // Forward, whatever the program says, and also if the robots would clash.
        for (int instruction = 0; instruction <= 5; instruction++) {
            row(FREE, "r0121c13i0" + instruction + ".", 1);
        }
        row(FREE, "r0121c13r1143i00.i10.", 2);
        row(FREE, "r0121r1143i00.i10.", 0);
        // Belts and pits change nothing.
        row("...... ...... eeo... ...... ...... ......", "r0121c13", 1);
        row("...... ...... .ww... ...... ...... ......", "r0121c13c14", 2);
        // Now: behind a step it may be another one.
        BeltFloor f = Floors.of(FREE, "r0121c13c15i003.");
        Check.same("one", f.rowAhead(0), 1);
        f.step(1);
        Check.same("two", f.rowAhead(0), 2);
        f.step(1);
        Check.same("none to the south", f.rowAhead(0), 0);
    }

    private static void rowsOfBoth() {
        BeltFloor f = Floors.of(FREE, "r0121c13r1202c26c32");
        Check.same("robot 0", f.rowAhead(0), 1);
        Check.same("robot 1", f.rowAhead(1), -1);
        BeltFloor g = Floors.of(FREE, "r1121c13r0202c26");
        Check.same("robot 0", g.rowAhead(0), 1);
        Check.same("robot 1", g.rowAhead(1), 1);
        g.addCrate(14);
        Check.same("robot 1", g.rowAhead(1), 2);
        Check.same("robot 0", g.rowAhead(0), 1);
    }

    private static void howMany() {
        row(FREE, "", 0);
        row(FREE, "r0121c13", 1);
        row(FREE, "r0121c13c14", 2);
        row(FREE, "r0121c13c14c15", 3);
        row(FREE, "r0121c13c14c15c16", 4);
        row(FREE, "r0300c24c18c12c06", 4);
        row(FREE, "r0002c06c12c18c24", 4);
        row(FREE, "r0173c16c15c14c13", 4);
        row(FREE, "r0341r1280", 0);
        row(FREE, "r0331r1340", 1);
    }

    private static void blocked() {
        for (int cell = 0; cell < 36; cell++) {
            for (int facing = 0; facing < 4; facing++) {
                BeltFloor f = new BeltFloor();
                Floors.putRobots(f, cell, facing, 6 * ((cell / 6 + 3) % 6) + (cell + 3) % 6, 0);
                int due = Floors.beside(cell, facing) < 0 ? BeltFloor.NONE : 0;
                Check.same("from " + cell + " facing " + facing, f.rowAhead(0), due);
            }
        }
        row(FREE, "r0121c13c14c15c16c17", -1);
        row(FREE, "r0161c17", -1);
        row(FREE, "r0161r1170", -1);
        row(FREE, "r0060c00", -1);
        row("...... ...... .#.... ...... ...... ......", "r0121", -1);
        row("...... ...... ...#.. ...... ...... ......", "r0121c13c14", -1);
        row("...... ...... ...#.. ...... ...... ......", "r0121c13", 1);
        row("...... ...... ...o.. ...... ...... ......", "r0121c13c14", 2);
    }

    private static void clash(String rows, String items, boolean due) {
        BeltFloor f = Floors.of(rows, items);
        Check.same("wouldClash " + items, f.wouldClash(), due);
        int bumps = f.bumpsOf(0) + f.bumpsOf(1);
        f.step(1);
        Check.same("both bump " + items, f.bumpsOf(0) + f.bumpsOf(1) - bumps == 2, due);
    }

    private static void clashes() {
        String meet = "r0121r1143";
        clash(FREE, meet + "i00.i10.", true);
        clash(FREE, meet, false);
        clash(FREE, meet + "i00.", false);
        clash(FREE, meet + "i10.", false);
        for (int instruction = 1; instruction <= 5; instruction++) {
            clash(FREE, meet + "i00.i1" + instruction + ".", false);
            clash(FREE, meet + "i0" + instruction + ".i10.", false);
        }
        clash(FREE, "r0123r1141i01.i11.", true);
        clash(FREE, "r0123r1143i01.i10.", true);
        clash(FREE, "r0131r1143i00.i10.", true);
        clash(FREE, "r0121r1072c13i00.i10.", true);
        clash(FREE, "r0121r1153i00.i10.", false);
        // One that is blocked does not clash.
        clash("...... .#.... ...... ...... ...... ......", "r0121r1130i00.i10.", false);
        clash(FREE, "r0121c13c14c15c16c17r1082i00.i15.", false);
        Check.same("one is blocked by its row",
                Floors.of(FREE, "r0121c13c14c15c16c17r1082i00.i10.").wouldClash(), false);
        Check.same("both are blocked", Floors.of(FREE, "r0161r1173i00.i10.c15c14c13c12").wouldClash(), false);
        // In the next step, and in no later one.
        BeltFloor f = Floors.of(FREE, meet + "i050.i150.");
        Check.same("not yet", f.wouldClash(), false);
        f.step(1);
        Check.same("now", f.wouldClash(), true);
        f.step(1);
        Check.same("not now", f.wouldClash(), false);
        Check.same("robots of a new object", new BeltFloor().wouldClash(), false);
    }

    // ---- passesIn

    private static void passing() {
        Doc.promise(36, "Tells when a robot passes its next checkpoint, if only steps are made.", WouldBeSentences::passes);
        Doc.promise(36, "`robot`: 0 or 1", WouldBeSentences::bothPass);
        Doc.promise(36, "Returns in which step from now on, 1 to 150;", WouldBeSentences::oneTo150);
        Doc.promise(36, "NONE if it does not in these.", WouldBeSentences::neverOrTooLate);
        Doc.promise(36, NO_ROBOT, () -> noSuchRobot("passesIn", BeltFloor::passesIn));
    }

    private static void passes() {
        BeltFloor f = Floors.of(FREE, "i00.p18p24p06");
        Check.same("the first one", f.passesIn(0), 2);
        f.step(1);
        Check.same("one step later", f.passesIn(0), 1);
        f.step(1);
        Check.same("the second one is behind it", f.passesIn(0), -1);
        f.putRobot(0, 30, 0);
        Check.same("in front of the second one", f.passesIn(0), 1);
        // The way leads through pushes, belts, falls, and the other robot.
        Check.same("pushed", Floors.of(FREE, "r0121i00.r1130p17").passesIn(1), 4);
        Check.same("pushing", Floors.of(FREE, "r0121i00.r1130p17").passesIn(0), -1);
        Check.same("carried", Floors.of("...... .eee.. ...... ...... ...... ......", "r0070p10").passesIn(0), 3);
        Check.same("fallen", Floors.of("...... ...... ...... ...... o..... ......", "i00.p00").passesIn(0), 1);
        Check.same("held up by clashes", Floors.of(FREE, "r0121r1143i00.i10005.p13").passesIn(0), 4);
    }

    private static void bothPass() {
        BeltFloor f = Floors.of(FREE, "i00.r1330i1550.p27p12");
        Check.same("robot 0", f.passesIn(0), -1);
        Check.same("robot 1", f.passesIn(1), 3);
        BeltFloor g = Floors.of(FREE, "i00.i10.p24p29");
        Check.same("robot 0", g.passesIn(0), 1);
        Check.same("robot 1 is not led to the first one", g.passesIn(1), -1);
        g.step(1);
        Check.same("robot 0 is not led to the second one", g.passesIn(0), -1);
        g.putRobot(0, 0, 0);
        g.putRobot(1, 30, 0);
        Check.same("robot 1", g.passesIn(1), 1);
    }

    private static void oneTo150() {
        Check.same("in the first step", Floors.of(FREE, "p30").passesIn(0), 1);
        BeltFloor f = Floors.of(WINDING, "r0001r1300i05555555550.p35p34");
        Check.same("in the last step", f.passesIn(0), 150);
        f.step(1);
        Check.same("in the last step but one", f.passesIn(0), 149);
        for (int step = 0; step < 3; step++) {
            f.step(40);
        }
        Check.same("121 steps later", f.passesIn(0), 29);
        Check.same("it is so", f.step(28), 0);
        Check.same("it is so", f.step(1), 1);
    }

    private static void neverOrTooLate() {
        BeltFloor f = Floors.of(WINDING, "r0001r1300i05555555550.p34");
        Check.same("in the step 151", f.passesIn(0), -1);
        f.step(1);
        Check.same("in the step 150", f.passesIn(0), 150);
        Check.same("without a checkpoint", new BeltFloor().passesIn(0), -1);
        Check.same("without a program", Floors.of(FREE, "p00").passesIn(0), -1);
        BeltFloor g = Floors.of(FREE, "p30");
        g.step(1);
        Check.same("when it is home", g.passesIn(0), -1);
        Check.same("blocked for ever", Floors.of("...... ...... ...... #..... ...... ......", "i00.p12").passesIn(0), -1);
    }

    // ---- loopByWaiting and loopByKeeping

    private static void loops() {
        Doc.promise(37, "Tells after how many more steps the floor is, for the first time, as it is 120 steps from now:",
                WouldBeSentences::firstTime);
        Doc.promise(37, "the same cells of crates,", WouldBeSentences::cellsOfCrates);
        Doc.promise(37, "the same cells,", WouldBeSentences::cellsOfRobots);
        Doc.promise(37, "directions,", WouldBeSentences::directions);
        Doc.promise(37, "next checkpoints", WouldBeSentences::nextCheckpoints);
        Doc.promise(37, "and places of both robots;", WouldBeSentences::places);
        Doc.promise(37, "found by making 120 steps, and then one by one;", WouldBeSentences::stepByStep);
        Doc.promise(37, "1 to 120;", WouldBeSentences::oneTo120);
        Doc.promise(37, "NONE if it is not so in these.", WouldBeSentences::noLoop);
        Doc.promise(38, "Tells the same, found by keeping all floors of 240 steps and comparing them.",
                WouldBeSentences::bothWays);
    }

    private static void loop(String rows, String items, int due) {
        Check.same("loopByWaiting " + items, Floors.of(rows, items).loopByWaiting(), due);
        Check.same("loopByKeeping " + items, Floors.of(rows, items).loopByKeeping(), due);
    }

    private static void firstTime() {
        loop(FREE, "", 1);
        loop(FREE, "i03.", 4);
        loop(FREE, "i04.", 2);
        // As it is in 120 steps, not as it is now: what happens once before does not matter.
        loop(FREE, "i00.p00", 1);
        loop("...... .eeeo. ...... ...... ...... ......", "c07", 1);
        loop("...... ...... ...... ...... .o.... ......", "r0241i00.", 1);
        loop(FREE, "r0121c13c14i0001.", 3);
        loop(".o.... ...... ...... ...... ...... ......", "r0000i030.", 2);
    }

    private static void cellsOfCrates() {
        loop(RING, "c00", 4);
        loop(RING, "c00c07", 2);
        loop(RING, "c00c01c07", 4);
        loop(RING, "c00c01c06c07", 1);
        loop("...... .ew... ...... ...... ...... ......", "c08", 2);
        loop("eeeees n....s n....s n....s n....s nwwwww", "r0070r1080c00", 20);
    }

    private static void cellsOfRobots() {
        loop(RING, "r0000", 4);
        loop(RING, "r1000", 4);
        loop(RING, "r0000r1070", 4);
        loop(RING, "r0000c07", 4);
        loop("...... .ew... ...... ...... ...... ......", "r0080", 2);
        loop("...... .ew... ...... ...... ...... ......", "r1080", 2);
        loop(FREE, "i001.", 2);
        loop(FREE, "i101.", 2);
    }

    private static void directions() {
        loop(FREE, "i02.", 4);
        loop(FREE, "i12.", 4);
        loop(FREE, "i03.", 4);
        loop(FREE, "i13.", 4);
        loop(FREE, "i04.", 2);
        loop(FREE, "i14.", 2);
        loop(FREE, "i05.i15.", 1);
    }

    private static void nextCheckpoints() {
        // Rounds of 40 steps, in which a checkpoint is passed in each: the fourth one in the step 121.
        loop(FREE, "i00555555553.", 40);
        loop(FREE, "i00555555553.p30p31p25", 40);
        loop(FREE, "i00555555553.p30p31p25p24", -1);
        loop(FREE, "i10555555552.", 40);
        loop(FREE, "i10555555552.p35p34p28", 40);
        loop(FREE, "i10555555552.p35p34p28p29", -1);
        // The fourth one in the step 120: then it is passed for good.
        loop(FREE, "r0140i03555555550.p20p21p15p14", 40);
        loop(FREE, "r1150i12555555550.p21p20p14p15", 40);
        // Behind all four, the rest is still compared.
        loop(FREE, "i005.p24p18p12p06", 2);
        loop(FREE, "i105.p29p23p17p11", 2);
        loop(FREE, "i0005.p24p18p12p06", 3);
    }

    private static void places() {
        for (int length = 1; length <= 10; length++) {
            String waits = "5555555555".substring(0, length);
            loop(FREE, "i0" + waits + ".", length);
            loop(FREE, "i1" + waits + ".", length);
        }
        loop(FREE, "i0555.i155.", 6);
        loop(FREE, "i0555.i13.", 12);
        loop(FREE, "i05555555555.i1555555555.", 90);
    }

    private static void oneTo120() {
        loop(FREE, "i05.", 1);
        loop(FREE, "i03555555555.i1555.", 120);
        loop(FREE, "i1555.i03555555555.", 120);
        loop(FREE, "i03555555555.i155555555.", 40);
        loop(FREE, "i04555555.i155555.", 70);
        loop(FREE, "i0355555555.i15555555555.", -1);
    }

    private static void noLoop() {
        // The next time is 126 steps later.
        loop(FREE, "i04555555.i1555555555.", -1);
        loop(FREE, "i03555555555.i1555555555.", -1);
        loop(FREE, "i04555555555.i15555555.", -1);
        // A checkpoint is passed in the step 150 alone.
        loop(WINDING, "r0001r1300i05555555550.p35", -1);
        Check.same("NONE", BeltFloor.NONE, -1);
    }

    private static String floorAfter(Whole.Script script, int steps) {
        BeltFloor f = Whole.after(script);
        for (int left = steps; left > 0; left -= 40) {
            f.step(Math.min(left, 40));
        }
        return Floors.look(f) + " " + f.nextOf(0) + f.nextOf(1) + " " + f.placeOf(0) + " " + f.placeOf(1);
    }

    /** The same by steps that are made. */
    private static int loopOf(Whole.Script script) {
        String then = floorAfter(script, 120);
        for (int more = 1; more <= 120; more++) {
            if (floorAfter(script, 120 + more).equals(then)) {
                return more;
            }
        }
        return -1;
    }

    private static void stepByStep() {
        for (Whole.Script script : Whole.SCRIPTS) {
            Check.same("script " + Whole.SCRIPTS.indexOf(script), Whole.after(script).loopByWaiting(), loopOf(script));
        }
        for (int seed = 0; seed < 40; seed++) {
            Whole.Script script = randomScript(seed);
            Check.same("random script " + seed, Whole.after(script).loopByWaiting(), loopOf(script));
        }
    }

    private static void bothWays() {
        for (Whole.Script script : Whole.SCRIPTS) {
            Check.same("script " + Whole.SCRIPTS.indexOf(script), Whole.after(script).loopByKeeping(), loopOf(script));
        }
        for (int seed = 0; seed < 500; seed++) {
            Whole.Script script = randomScript(seed);
            int due = Whole.after(script).loopByWaiting();
            Check.same("random script " + seed, Whole.after(script).loopByKeeping(), due);
            BeltFloor f = Whole.after(script);
            f.loopByKeeping();
            f.loopByWaiting();
            Check.same("once more, script " + seed, f.loopByKeeping(), due);
        }
    }

    /** Some belts, blocks, pits, crates, and short programs. */
    private static Whole.Script randomScript(int seed) {
        return f -> {
            Random dice = new Random(seed);
            for (int i = 0; i < 25; i++) {
                int cell = dice.nextInt(36);
                int kind = dice.nextInt(5) == 0 ? 1 + dice.nextInt(2) : 3 + dice.nextInt(4);
                Check.outcome(() -> f.setKind(cell, kind));
            }
            for (int i = 0; i < 5; i++) {
                Check.outcome(() -> f.addCrate(dice.nextInt(36)));
                Check.outcome(() -> f.addCheckpoint(dice.nextInt(36)));
            }
            int length = 2 + dice.nextInt(8);
            for (int i = 0; i < length; i++) {
                f.write(dice.nextInt(2), dice.nextInt(6));
            }
        };
    }

    // ---- fewestBySpreading and fewestBySweeping

    private static void fewest() {
        Doc.promise(39, "Tells the fewest instructions (0 to 4 alone) by which a robot would come from its cell to another"
                + " one, as it faces now,", WouldBeSentences::fewestOnFreeFloor);
        Doc.promise(39, "if there were no belts,", WouldBeSentences::noBelts);
        Doc.promise(39, "crates and checkpoints, and no other robot,", WouldBeSentences::nothingInTheWay);
        Doc.promise(39, "and it must not come to blocks and pits;", WouldBeSentences::roundBlocksAndPits);
        Doc.promise(39, "found by spreading from the robot.", WouldBeSentences::spreadingAgain);
        Doc.promise(39, "`robot`: 0 or 1", WouldBeSentences::fewestOfBoth);
        Doc.promise(39, "`cell`: 0 to 35", WouldBeSentences::fewestToEachCell);
        Doc.promise(39, "Returns how many;", WouldBeSentences::howManyInstructions);
        Doc.promise(39, "0 if it is there;", WouldBeSentences::isThere);
        Doc.promise(39, "NONE if it cannot.", WouldBeSentences::cannot);
        Doc.promise(39, NO_ROBOT_OR_CELL, () -> noWay(BeltFloor::fewestBySpreading));
        Doc.promise(40, "Tells the same, found by sweeping over all cells and directions, again and again, until none"
                + " comes nearer.", WouldBeSentences::sweepingAgain);
        Doc.promise(40, "`robot`: 0 or 1", WouldBeSentences::fewestOfBoth);
        Doc.promise(40, "`cell`: 0 to 35", WouldBeSentences::fewestToEachCell);
        Doc.promise(40, "Returns the same as fewestBySpreading().", WouldBeSentences::theSame);
        Doc.promise(40, NO_ROBOT_OR_CELL, () -> noWay(BeltFloor::fewestBySweeping));
    }

    private interface QueryOfWay {
        long of(BeltFloor f, int robot, int cell);
    }

    private static void noWay(QueryOfWay call) {
        for (int robot : Floors.WRONG_ROBOTS) {
            Whole.refusesIndex("robot " + robot, f -> call.of(f, robot, 0));
        }
        for (int cell : Floors.WRONG_CELLS) {
            Whole.refusesIndex("robot 0 to " + cell, f -> call.of(f, 0, cell));
            Whole.refusesIndex("robot 1 to " + cell, f -> call.of(f, 1, cell));
        }
        Whole.refusesIndex("neither", f -> call.of(f, 2, 36));
    }

    private static void way(BeltFloor f, int robot, int cell, int due) {
        Check.same("fewestBySpreading " + robot + " to " + cell, f.fewestBySpreading(robot, cell), due);
        Check.same("fewestBySweeping " + robot + " to " + cell, f.fewestBySweeping(robot, cell), due);
    }

    /** Without anything in the way: a step for each row and column, and a turn if both, or the other axis, are wanted. */
    private static int onFreeFloor(int from, int facing, int to) {
        int rows = Math.abs(from / 6 - to / 6);
        int columns = Math.abs(from % 6 - to % 6);
        boolean turn = facing % 2 == 0 ? columns > 0 : rows > 0;
        return rows + columns + (turn ? 1 : 0);
    }

    private static void fewestOnFreeFloor() {
        for (int from = 0; from < 36; from++) {
            for (int facing = 0; facing < 4; facing++) {
                BeltFloor f = new BeltFloor();
                Floors.putRobots(f, from, facing, (from + 7) % 36, 3 - facing);
                for (int to = 0; to < 36; to++) {
                    way(f, 0, to, onFreeFloor(from, facing, to));
                    way(f, 1, to, onFreeFloor((from + 7) % 36, 3 - facing, to));
                }
            }
        }
    }

    private static void noBelts() {
        BeltFloor f = Floors.of("wwwwww ssssss nnnnnn eeeeee ssssss eeeeee", "");
        for (int to = 0; to < 36; to++) {
            way(f, 0, to, onFreeFloor(30, 0, to));
            way(f, 1, to, onFreeFloor(35, 0, to));
        }
    }

    private static void nothingInTheWay() {
        BeltFloor f = Floors.of(FREE, "r1240c31c18c25p12p13p29i03.i15.");
        for (int to = 0; to < 36; to++) {
            way(f, 0, to, onFreeFloor(30, 0, to));
            way(f, 1, to, onFreeFloor(24, 0, to));
        }
    }

    private static void roundBlocksAndPits() {
        for (String hole : new String[] {"#", "o"}) {
            BeltFloor f = Floors.of(".?.... .?.?.. .?.?.. .?.?.. .?.?.. ...?..".replace("?", hole), "r0000");
            way(f, 0, 30, 5);
            way(f, 0, 31, 7);
            way(f, 0, 32, 8);
            way(f, 0, 2, 14);
            way(f, 0, 3, 16);
            way(f, 0, 5, 18);
            way(f, 0, 35, 24);
            way(f, 0, 1, -1);
            way(f, 0, 33, -1);
            way(f, 1, 34, 2);
            BeltFloor g = Floors.of("...... .?.... ...... ...... ...... ......".replace("?", hole), "r0131");
            way(g, 0, 1, 6);
            way(g, 0, 7, -1);
            way(g, 0, 8, 3);
        }
        Check.same("both kinds", Floors.of(".#.... .o.... .#.... .o.... .#.... .o....", "").fewestBySpreading(1, 0), -1);
        Check.same("both kinds", Floors.of(".#.... .o.... .#.... .o.... .#.... .o....", "").fewestBySweeping(1, 0), -1);
    }

    private static void spreadingAgain() {
        again(BeltFloor::fewestBySpreading, BeltFloor::fewestBySweeping);
    }

    private static void sweepingAgain() {
        again(BeltFloor::fewestBySweeping, BeltFloor::fewestBySpreading);
    }

    /** Nothing of what was found before may be left. */
    private static void again(QueryOfWay call, QueryOfWay other) {
        BeltFloor f = new BeltFloor();
        Check.same("at first", call.of(f, 0, 35), 6);
        f.putRobot(0, 0, 2);
        Check.same("from elsewhere", call.of(f, 0, 35), 11);
        Check.same("the other way", other.of(f, 1, 0), 11);
        f.setKind(1, 1);
        f.setKind(6, 2);
        Check.same("shut in", call.of(f, 0, 35), -1);
        Check.same("to the other robot's cell", call.of(f, 1, 0), -1);
        f.undo();
        Check.same("open again", call.of(f, 0, 35), 11);
        Check.same("the other robot", call.of(f, 1, 34), 2);
        Check.same("the same again", call.of(f, 1, 34), 2);
    }

    private static void fewestOfBoth() {
        BeltFloor f = new BeltFloor();
        way(f, 0, 0, 5);
        way(f, 1, 0, 11);
        way(f, 0, 5, 11);
        way(f, 1, 5, 5);
    }

    private static void fewestToEachCell() {
        int[] fromTheMiddle = {
            5, 4, 2, 4, 5, 6,
            4, 3, 1, 3, 4, 5,
            3, 2, 0, 2, 3, 4,
            4, 3, 1, 3, 4, 5,
            5, 4, 2, 4, 5, 6,
            6, 5, 3, 5, 6, 7};
        BeltFloor f = Floors.of(FREE, "r0142");
        for (int cell = 0; cell < 36; cell++) {
            way(f, 0, cell, fromTheMiddle[cell]);
        }
    }

    private static void howManyInstructions() {
        // By going on, by going back, by each turn, and by as much of these as there can be.
        BeltFloor f = Floors.of(FREE, "r0141");
        way(f, 0, 15, 1);
        way(f, 0, 13, 1);
        way(f, 0, 8, 2);
        way(f, 0, 20, 2);
        way(f, 0, 7, 3);
        BeltFloor g = Floors.of("..#... .#.#.. ...#.. ##.#.. ...... ......", "r0000");
        way(g, 0, 7, -1);
        way(g, 0, 2, -1);
        way(g, 0, 1, 2);
        way(g, 0, 8, 7);
        way(g, 0, 12, 2);
        // To and fro over the whole floor.
        for (int facing = 0; facing < 4; facing++) {
            BeltFloor h = Floors.of("...... #####. ...... .##### ...... .####.", "r000" + facing);
            int turn = facing % 2 == 0 ? 1 : 0;
            int[] cells = {1, 5, 11, 17, 12, 18, 24, 30, 25, 29, 35};
            int[] due = {1, 5, 7, 8, 14, 16, 17, 18, 19, 23, 25};
            for (int i = 0; i < cells.length; i++) {
                way(h, 0, cells[i], due[i] + turn);
            }
        }
    }

    private static void isThere() {
        for (int facing = 0; facing < 4; facing++) {
            for (int cell : new int[] {0, 14, 34}) {
                BeltFloor f = new BeltFloor();
                f.putRobot(0, cell, facing);
                way(f, 0, cell, 0);
            }
        }
        // It may be there on a belt, shut in, or on a pit that it could not leave.
        way(Floors.of(".#.... n..... ...... ...... ...... ......", "r0001"), 0, 0, 0);
        BeltFloor f = Floors.of("###### ###### ###### ###### o##### n####.", "");
        f.step(1);
        Check.same("on a pit", f.cellOf(0), 24);
        way(f, 0, 24, 0);
        way(f, 0, 30, 1);
        way(f, 0, 35, -1);
    }

    private static void cannot() {
        for (String hole : new String[] {"#", "o"}) {
            BeltFloor f = Floors.of("...... .???.. .?.?.. .???.. ...... ......".replace("?", hole), "");
            way(f, 0, 14, -1);
            way(f, 0, 8, -1);
            way(f, 1, 14, -1);
            way(f, 1, 21, -1);
            f.putRobot(0, 14, 0);
            way(f, 0, 14, 0);
            way(f, 0, 8, -1);
            way(f, 0, 2, -1);
            way(f, 0, 35, -1);
        }
        Check.same("NONE", BeltFloor.NONE, -1);
    }

    private static void theSame() {
        for (int seed = 0; seed < 300; seed++) {
            Random dice = new Random(seed);
            BeltFloor f = new BeltFloor();
            for (int i = 0; i < 18; i++) {
                int cell = dice.nextInt(36);
                int kind = dice.nextInt(6) == 0 ? 3 + dice.nextInt(4) : 1 + dice.nextInt(2);
                Check.outcome(() -> f.setKind(cell, kind));
            }
            Check.outcome(() -> f.putRobot(0, dice.nextInt(36), dice.nextInt(4)));
            for (int cell = 0; cell < 36; cell++) {
                Check.same("seed " + seed + " robot 0 to " + cell, f.fewestBySweeping(0, cell), f.fewestBySpreading(0, cell));
                Check.same("seed " + seed + " robot 1 to " + cell, f.fewestBySweeping(1, cell), f.fewestBySpreading(1, cell));
            }
        }
    }
}
