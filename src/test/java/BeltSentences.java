/** The sentences of A STEP about belts and pits. */
final class BeltSentences {
    private static final String ABOUT = "A STEP";
    private static final String RING = "es.... nw.... ...... ...... ...... ......";

    private BeltSentences() {
    }

    static void all() {
        Doc.says(ABOUT, "Each thing on a belt wants to be carried by one cell in its direction.", BeltSentences::carried);
        Doc.says(ABOUT, "It is not carried if this leaves the floor", BeltSentences::leavingTheFloor);
        Doc.says(ABOUT, "or comes to a block;", BeltSentences::comingToABlock);
        Doc.says(ABOUT, "if another thing wants to be carried to the same cell;", BeltSentences::toTheSameCell);
        Doc.says(ABOUT, "if two things would change places;", BeltSentences::changingPlaces);
        Doc.says(ABOUT, "or if on that cell is a thing that is not carried.", BeltSentences::aThingThatIsNotCarried);
        Doc.says(ABOUT, "(So things on belts right behind one another are carried together,", BeltSentences::together);
        Doc.says(ABOUT, "and so are things in a ring of belts.)", BeltSentences::rings);
        Doc.says(ABOUT, "and so are things in a ring of belts.)", BeltSentences::ringsThatDoNotTurn);
        Doc.says(ABOUT, "All others are carried, all at once;", BeltSentences::allAtOnce);
        Doc.says(ABOUT, "they face as they did.", BeltSentences::facings);
        Doc.says(ABOUT, "Each crate on a pit is lost: it is gone.", BeltSentences::cratesOnPits);
        Doc.says(ABOUT, "Each robot on a pit falls:", BeltSentences::robotsOnPits);
        Doc.says(ABOUT, "it comes, the robot 0 first,", BeltSentences::theRobot0First);
        Doc.says(ABOUT, "to the lowest cell that is floor and has no thing,", BeltSentences::lowestCell);
        Doc.says(ABOUT, "facing north;", BeltSentences::facingNorth);
        Doc.says(ABOUT, "if there is none, it stays on the pit, facing north, and has fallen all the same.",
                BeltSentences::noFreeCell);
        Doc.says(ABOUT, "if there is none, it stays on the pit, facing north, and has fallen all the same.",
                BeltSentences::noFreeCellForTheOther);
    }

    /** A floor with crates, each on a belt: pairs of a cell and a direction. The robots are on cells beside the way. */
    private static BeltFloor crates(int... belts) {
        BeltFloor f = new BeltFloor();
        int[] aside = new int[2];
        int found = 0;
        for (int cell = 0; found < 2; cell++) {
            boolean free = true;
            for (int i = 0; i < belts.length; i += 2) {
                free &= cell != belts[i] && cell != Floors.beside(belts[i], belts[i + 1]);
            }
            if (free) {
                aside[found++] = cell;
            }
        }
        Floors.putRobots(f, aside[0], 0, aside[1], 0);
        for (int i = 0; i < belts.length; i += 2) {
            f.setKind(belts[i], 3 + belts[i + 1]);
            f.addCrate(belts[i]);
        }
        return f;
    }

    /** None of the crates on belts is carried. */
    private static void staying(String what, int... belts) {
        BeltFloor f = crates(belts);
        String before = Floors.look(f);
        f.step(1);
        Check.same(what, Floors.look(f), before);
    }

    private static void step(String rows, String items, String due) {
        BeltFloor f = Floors.of(rows, items);
        f.step(1);
        Check.same(rows + " " + items, Floors.look(f), due);
    }

    private static void carried() {
        step("...... .n.... ...... ...... ...... ......", "c07", "30n 35n c1");
        step("...... .e.... ...... ...... ...... ......", "c07", "30n 35n c8");
        step("...... .s.... ...... ...... ...... ......", "c07", "30n 35n c13");
        step("...... .w.... ...... ...... ...... ......", "c07", "30n 35n c6");
        step("...... .n.... ...... ...... ...... ......", "r0072", "1s 35n");
        step("...... .e.... ...... ...... ...... ......", "r0072", "8s 35n");
        step("...... .s.... ...... ...... ...... ......", "r1073", "30n 13w");
        step("...... .w.... ...... ...... ...... ......", "r1073", "30n 6w");
        // From each cell in each direction.
        for (int cell = 0; cell < 36; cell++) {
            for (int direction = 0; direction < 4; direction++) {
                int to = Floors.beside(cell, direction);
                if (to >= 0) {
                    BeltFloor f = crates(cell, direction);
                    f.step(1);
                    Check.same("carried from " + cell, f.hasCrate(to) && f.cratesByCells() == 1, true);
                }
            }
        }
        // By one cell alone, and from floor not at all.
        step("...... .eee.. ...... ...... ...... ......", "c07c13", "30n 35n c8 c13");
        BeltFloor f = Floors.of("...... .eee.. ...... ...... ...... ......", "c07");
        f.step(3);
        Check.same("three steps", Floors.look(f), "30n 35n c10");
        f.step(1);
        Check.same("behind the last belt", Floors.look(f), "30n 35n c10");
        Check.same("carried is not moved by itself", Floors.counts(f), "0 0 0 0, 0 0 0 0");
    }

    /** On each edge, a crate and a robot on a belt that leads over it. */
    private static void leavingTheFloor() {
        for (int cell = 0; cell < 36; cell++) {
            for (int direction = 0; direction < 4; direction++) {
                if (Floors.beside(cell, direction) < 0) {
                    BeltFloor f = new BeltFloor();
                    Floors.putRobots(f, 14, 0, cell, 2);
                    f.setKind(cell, 3 + direction);
                    f.step(1);
                    Check.same("a robot at the edge", Floors.look(f), "14n " + cell + "s");
                    f.putRobot(1, 15, 0);
                    f.addCrate(cell);
                    f.step(2);
                    Check.same("a crate at the edge", Floors.look(f), "14n 15n c" + cell);
                }
            }
        }
        // Nor is what stands behind it.
        step(".....n .....n .....n ...... ...... ......", "c05c11c17", "30n 35n c5 c11 c17");
    }

    private static void comingToABlock() {
        step("...... ..#... .#n#.. .wee#. .#s#.. ..#...", "c14c19c21c26", "30n 35n c14 c18 c21 c26");
        step("...... .#n#.. ..#... ...... ...... ......", "c08", "30n 35n c2");
        step("#..... n..... ...... ...... ...... ......", "r0061", "6e 35n");
        step(".....# .....n ...... ...... ...... ......", "r1111", "30n 11e");
        step("....e# ...... ...... ...... ...... ......", "c04", "30n 35n c4");
        step("...... s..... #..... ...... ...... ......", "c06", "30n 35n c6");
        step("...... #w.... ...... ...... ...... ......", "c07", "30n 35n c7");
        // A block that is gone holds nobody up.
        BeltFloor f = Floors.of("...... .e#... ...... ...... ...... ......", "c07");
        f.step(1);
        f.setKind(8, 0);
        f.step(1);
        Check.same("behind the block is gone", Floors.look(f), "30n 35n c8");
    }

    private static void toTheSameCell() {
        step("...... .e.w.. ...... ...... ...... ......", "c07c09", "30n 35n c7 c9");
        step("...... .e.w.. ...... ...... ...... ......", "c07", "30n 35n c8");
        step("...... .e.w.. ...... ...... ...... ......", "c09", "30n 35n c8");
        step("..s... .e.... ...... ...... ...... ......", "c02c07", "30n 35n c2 c7");
        step("...... .e.... ..n... ...... ...... ......", "r0143r1070", "14w 7n");
        step("..s... .e.w.. ..n... ...... ...... ......", "c02c07c09c14", "30n 35n c2 c7 c9 c14");
        step("..s... .e.w.. ..n... ...... ...... ......", "c02c09c14", "30n 35n c2 c9 c14");
        // To each cell, from each two sides.
        for (int cell = 0; cell < 36; cell++) {
            for (int one = 0; one < 4; one++) {
                for (int other = one + 1; other < 4; other++) {
                    int first = Floors.beside(cell, one);
                    int second = Floors.beside(cell, other);
                    if (first >= 0 && second >= 0) {
                        staying("both want to " + cell, first, (one + 2) % 4, second, (other + 2) % 4);
                    }
                }
            }
        }
        // To the same pit, too; and to a cell whose own thing is carried away.
        step("...... .eow.. ...... ...... ...... ......", "c07c09", "30n 35n c7 c9");
        step("..s... .eee.. ...... ...... ...... ......", "c02c07c08", "30n 35n c2 c7 c9");
        // A belt without a thing wants nothing.
        step("...... .e.... ..n... ...... ...... ......", "c07", "30n 35n c8");
        step("...... ee.ww. ...... ...... ...... ......", "c06c07c09c10", "30n 35n c6 c7 c9 c10");
    }

    private static void changingPlaces() {
        step("...... .ew... ...... ...... ...... ......", "c07c08", "30n 35n c7 c8");
        step("...... .ew... ...... ...... ...... ......", "c07", "30n 35n c8");
        step("...... .ew... ...... ...... ...... ......", "c08", "30n 35n c7");
        step("...... .s.... .n.... ...... ...... ......", "r0071r1133", "7e 13w");
        step("...... .s.... .n.... ...... ...... ......", "r0071c13", "7e 35n c13");
        step("...... eew... ...... ...... ...... ......", "c06c07c08", "30n 35n c6 c7 c8");
        step("...... .ewww. ...... ...... ...... ......", "c07c08c09c10", "30n 35n c7 c8 c9 c10");
        for (int cell = 0; cell < 36; cell++) {
            for (int direction = 1; direction <= 2; direction++) {
                int beside = Floors.beside(cell, direction);
                if (beside >= 0) {
                    staying(cell + " and " + beside, cell, direction, beside, (direction + 2) % 4);
                }
            }
        }
    }

    private static void aThingThatIsNotCarried() {
        step("...... .e.... ...... ...... ...... ......", "c07c08", "30n 35n c7 c8");
        step("...... .e.... ...... ...... ...... ......", "c07r0081", "8e 35n c7");
        step("...... .e.... ...... ...... ...... ......", "r0071r1082", "7e 8s");
        step("...... eee... ...... ...... ...... ......", "c06c07c08c09", "30n 35n c6 c7 c8 c9");
        step("...... eee#.. ...... ...... ...... ......", "c06c07c08", "30n 35n c6 c7 c8");
        step("...... ...eee ...... ...... ...... ......", "c09c10c11", "30n 35n c9 c10 c11");
        step("...... ee.ww. ..n... ...... ...... ......", "c06c07c09", "30n 35n c6 c7 c9");
        step("...... eesw.. ...... ...... ...... ......", "c06c07c08c09", "30n 35n c6 c7 c9 c14");
        step("...... .es... ..#... ...... ...... ......", "c07c08", "30n 35n c7 c8");
        // From each cell in each direction; the other thing is on floor.
        for (int cell = 0; cell < 36; cell++) {
            for (int direction = 0; direction < 4; direction++) {
                int beside = Floors.beside(cell, direction);
                if (beside >= 0) {
                    BeltFloor f = crates(cell, direction);
                    f.addCrate(beside);
                    String before = Floors.look(f);
                    f.step(1);
                    Check.same(cell + " before " + beside, Floors.look(f), before);
                }
            }
        }
        // A thing that stops there in the same step is no less there.
        step("...... e..... ...... ...... ...... ......", "c06r0083i00.", "7w 35n c6");
    }

    private static void together() {
        step("...... eee... ...... ...... ...... ......", "c06c07c08", "30n 35n c7 c8 c9");
        step("...... .www.. ...... ...... ...... ......", "c07c08c09", "30n 35n c6 c7 c8");
        step("...... n..... n..... n..... n..... n.....", "c06c12c18c24", "24n 35n c0 c6 c12 c18");
        step("s..... s..... s..... s..... s..... ......", "r0340c00c06c12c18c24", "34n 35n c6 c12 c18 c24 c30");
        step("...... .es... ..s... ..e... ...... ......", "c07c08c14c20", "30n 35n c8 c14 c20 c21");
        step("...... eee... ...... ...... ...... ......", "r0061c07r1083", "7e 9w c8");
        // With a gap, and the first of them onto a pit.
        step("...... eee... ...... ...... ...... ......", "c06c08", "30n 35n c7 c9");
        step("...... eeeo.. ...... ...... ...... ......", "c06c07c08", "30n 35n c7 c8");
        // Nine things right behind one another, round a corner.
        step("eeeees .....s ...... ...... ...... ......", "r0000r1010c02c03c04c05c11", "1n 2n c3 c4 c5 c11 c17");
        step("eeeees .....s .....s .....s ...... ......", "r0000r1010c02c03c04c05c11c17c23",
                "1n 2n c3 c4 c5 c11 c17 c23 c29");
    }

    private static void rings() {
        BeltFloor f = Floors.of(RING, "r0002c01c06r1073");
        f.step(1);
        Check.same("a full ring", Floors.look(f), "1s 6w c0 c7");
        f.step(1);
        Check.same("a full ring", Floors.look(f), "7s 0w c1 c6");
        f.step(1);
        Check.same("a full ring", Floors.look(f), "6s 1w c0 c7");
        f.step(1);
        Check.same("all the way round", Floors.look(f), "0s 7w c1 c6");
        step(RING, "c00c01c06c07", "30n 35n c0 c1 c6 c7");
        step("sw.... en.... ...... ...... ...... ......", "r0001c01c06c07", "6e 35n c0 c1 c7");
        step(RING, "r0001c01c06", "1e 35n c0 c7");
        // Ten things in a ring of ten belts; in the corners of the floor, too.
        step("...... ...... ...... ...... eeeees nwwwww", "", "24n 34n");
        step("eees.. n..s.. nwww.. ...... ...... ......", "r0001r1012c02c03c09c15c14c13c12c06",
                "1e 2s c0 c3 c6 c9 c12 c13 c14 c15");
        step("eeeees n....s n....s n....s n....s nwwwww", "c00c05c03", "24n 34n c1 c4 c11");
    }

    private static void ringsThatDoNotTurn() {
        // A thing beside the ring wants to come into it, too.
        step("esw... nw.... ...... ...... ...... ......", "c00c01c02c06c07", "30n 35n c0 c1 c2 c6 c7");
        // A block or a cell of floor breaks it.
        step("e..... nw.... ...... ...... ...... ......", "c00c01c06c07", "30n 35n c0 c1 c6 c7");
        step("es.... .w.... ...... ...... ...... ......", "c00c01c06c07", "30n 35n c0 c1 c6 c7");
        step("es.... ow.... ...... ...... ...... ......", "c00c01c07", "30n 35n c1 c7");
        BeltFloor f = Floors.of(RING, "c00c01c07");
        f.setKind(6, 1);
        f.step(1);
        Check.same("a block in the ring", Floors.look(f), "30n 35n c0 c1 c7");
    }

    private static void allAtOnce() {
        // Each is carried once, also those that come to a belt in the same step; first those with low and with high cells.
        step("...... .eee.. ...... ...... ...... ......", "c07c08", "30n 35n c8 c9");
        step("...... .www.. ...... ...... ...... ......", "c08c09", "30n 35n c7 c8");
        step("...... .n.... .n.... .n.... ...... ......", "c13c19", "30n 35n c7 c13");
        step("...... .s.... .s.... .s.... ...... ......", "c07c13", "30n 35n c13 c19");
        step("...... .eee.. ...... ...... ...... ......", "r0070r1080", "8n 9n");
        step("...... .eee.. ...... ...... ...... ......", "r1070r0080", "9n 8n");
        // Belts far from one another.
        step("e....s ...... ...... ...... ...... n....w", "c00c05", "24n 34n c1 c11");
        // One that is held up does not hold up the others.
        step("...... .e.... ...... .e.... ...... ......", "c07c08c19", "30n 35n c7 c8 c20");
    }

    private static void facings() {
        for (int belt = 0; belt < 4; belt++) {
            for (int facing = 0; facing < 4; facing++) {
                BeltFloor f = new BeltFloor();
                f.setKind(14, 3 + belt);
                f.putRobot(0, 14, facing);
                f.step(1);
                Check.same("facing", f.facingOf(0), facing);
                Check.same("cell", f.cellOf(0), Floors.beside(14, belt));
                f.putRobot(1, 14, facing);
                f.putRobot(0, 28, 0);
                f.step(1);
                Check.same("facing of 1", f.facingOf(1), facing);
                Check.same("cell of 1", f.cellOf(1), Floors.beside(14, belt));
            }
        }
    }

    private static void cratesOnPits() {
        BeltFloor f = Floors.of("...... ...... ...o.. ...... ...... ......", "r0121i00.c13c14");
        f.step(1);
        Check.same("pushed into a pit", Floors.look(f), "13e 35n c14");
        Check.same("lost", f.lost(), 1);
        f.step(1);
        Check.same("another one", Floors.look(f), "14e 35n");
        Check.same("lost", f.lost(), 2);
        Check.same("left", f.cratesByCells(), 0);
        Check.same("left by accounts", f.cratesByAccounts(), 0);
        f.wipe(0);
        f.step(40);
        Check.same("lost once each", f.lost(), 2);
        f.putRobot(0, 0, 0);
        f.setKind(15, 0);
        Check.same("it does not come back", f.hasCrate(15), false);
        // Several in one step.
        BeltFloor g = Floors.of(".eo.o. owe.n. ...... ...... ...... ......", "c01c07c08c10");
        g.step(1);
        Check.same("three lost, one left", Floors.look(g), "30n 35n c9");
        Check.same("lost", g.lost(), 3);
        // Beside a pit none is lost.
        step("...... .ooo.. .o.o.. .ooo.. ...... ......", "c14", "30n 35n c14");
    }

    private static void robotsOnPits() {
        BeltFloor f = Floors.of("...... ...... ..o... ...... ...... ......", "r0131i00.");
        f.step(1);
        Check.same("by going", Floors.look(f) + " " + Floors.counts(f), "0n 35n 1 0 0 1, 0 0 0 0");
        f = Floors.of("...... ...... ..o... ...... ...... ......", "r0133i01.");
        f.step(1);
        Check.same("by going back", Floors.look(f) + " " + Floors.counts(f), "0n 35n 1 0 0 1, 0 0 0 0");
        f = Floors.of("...... ...... ..o... ...... ...... ......", "r0121r1132i00.");
        f.step(1);
        Check.same("by being pushed", Floors.look(f) + " " + Floors.counts(f), "13e 0n 1 0 1 0, 0 0 0 1");
        f = Floors.of("...... ...... .eo... ...... ...... ......", "r1131");
        f.step(1);
        Check.same("by being carried", Floors.look(f) + " " + Floors.counts(f), "30n 0n 0 0 0 0, 0 0 0 1");
        // Beside a pit, and by turning there, none falls.
        f = Floors.of("...... ..o... .o.o.. ..o... ...... ......", "r0141i02.");
        f.step(1);
        Check.same("beside pits", Floors.look(f) + " " + Floors.counts(f), "14n 35n 0 0 0 0, 0 0 0 0");
        f = Floors.of("...... ...... ..o... ...... ...... ......", "r0121r1132i00.");
        f.step(2);
        Check.same("it falls behind the other one", Floors.look(f), "1n 0n");
    }

    private static void theRobot0First() {
        BeltFloor f = Floors.of("...... ...... .o..o. ...... ...... ......", "r0121r1153i00.i11.");
        f.step(1);
        Check.same("both fall", Floors.look(f), "0n 1n");
        Check.same("falls", Floors.counts(f), "1 0 0 1, 1 0 0 1");
        f = Floors.of("...... ...... .o..o. ...... ...... ......", "r1121r0153i01.i10.");
        f.step(1);
        Check.same("both fall, the robot 1 from the lower pit", Floors.look(f), "0n 1n");
        f = Floors.of("#n#e.# ...... ...... ...... o....o ......", "c04c06i00.i10.");
        f.step(1);
        Check.same("to the lowest and the second lowest", Floors.look(f), "7n 8n c4 c6");
    }

    private static void lowestCell() {
        falling("the cell 0", "...... ...... ...... ...... o..... ......", "", "0n 35n");
        falling("no block", "#..... ...... ...... ...... o..... ......", "", "1n 35n");
        falling("no pit", "o..... ...... ...... ...... o..... ......", "", "1n 35n");
        falling("no belts", "nesw.. ...... ...... ...... o..... ......", "", "4n 35n");
        falling("no cell of a crate", "...... ...... ...... ...... o..... ......", "c00c01c03", "2n 35n c0 c1 c3");
        falling("no cell of the other robot", "...... ...... ...... ...... o..... ......", "r1002", "1n 0s");
        falling("the last cell", "###### ###### ###### ###### o##### .####.", "", "30n 35n");
        BeltFloor f = Floors.of("###### ###### ###### ###### o..... ......", "c25c26c27c28c29c33c32c34r0300i00.");
        f.step(1);
        Check.same("its old cell", Floors.look(f), "30n 35n c25 c26 c27 c28 c29 c32 c33 c34");
        // Where the crate was that is lost in the same step: it is a pit, too. Where one was carried from: it is a belt.
        BeltFloor g = Floors.of("eo.... ...... ...... ...... o..... ......", "c00i00.");
        g.step(1);
        Check.same("neither belt nor pit", Floors.look(g), "2n 35n");
        // The cell that the other robot has left in the same step is free.
        BeltFloor last = Floors.of("###### ###### ###### ###### o##### n###..", "r1343");
        last.step(1);
        Check.same("the very last cell", Floors.look(last), "35n 34w");
        falling("a cell that was left", "...... ...... ...... ...... o..... ......", "r1001c01i10.", "0n 1e c2");
    }

    /** The robot 0 goes from the cell 30 onto the pit on the cell 24. */
    private static void falling(String what, String rows, String items, String due) {
        BeltFloor f = Floors.of(rows, items + "i00.");
        f.step(1);
        Check.same(what, Floors.look(f), due);
        Check.same(what + ": falls", f.fallsOf(0), 1);
    }

    private static void facingNorth() {
        for (int facing = 0; facing < 4; facing++) {
            BeltFloor f = new BeltFloor();
            f.setKind(Floors.beside(14, facing), 2);
            f.putRobot(0, 14, facing);
            f.write(0, 0);
            f.step(1);
            Check.same("facing behind a fall of 0", Floors.look(f), "0n 35n");
            BeltFloor g = new BeltFloor();
            g.setKind(Floors.beside(14, (facing + 2) % 4), 2);
            g.putRobot(1, 14, facing);
            g.write(1, 1);
            g.step(1);
            Check.same("facing behind a fall of 1", Floors.look(g), "30n 0n");
        }
    }

    private static void noFreeCell() {
        // The robot 0 is carried from the only cell that it can stand on; the robot 1 is on the only floor.
        BeltFloor f = Floors.of("###### ###### ###### ###### o##### n####.", "r0302i02.");
        f.step(1);
        Check.same("it stays", Floors.look(f), "24n 35n");
        Check.same("it has fallen", f.fallsOf(0), 1);
        f.step(1);
        Check.same("it turns, falls again, and faces north", Floors.look(f), "24n 35n");
        f.step(3);
        Check.same("falls", Floors.counts(f), "0 0 0 5, 0 0 0 0");
        f.setKind(3, 5);
        f.step(1);
        Check.same("a belt is no floor", Floors.look(f), "24n 35n");
        f.setKind(3, 2);
        f.step(1);
        Check.same("another pit is none either", Floors.look(f), "24n 35n");
        f.setKind(3, 0);
        f.step(1);
        Check.same("a cell of floor", Floors.look(f), "3n 35n");
        Check.same("falls", f.fallsOf(0), 8);
        // On the pit it is a thing as anywhere.
        BeltFloor g = Floors.of("###### ###### ###### ###### o##### n####.", "i01.");
        g.step(1);
        Check.badState("a pit under it", () -> g.setKind(24, 2));
        Check.badState("a block under it", () -> g.setKind(24, 1));
        Check.badState("onto its own pit", () -> g.putRobot(0, 24, 0));
        Check.badState("a crate on it", () -> g.addCrate(24));
        Check.same("a belt under it", g.setKind(24, 5), 2);
    }

    private static void noFreeCellForTheOther() {
        BeltFloor f = Floors.of("###### .##### ###### ###### o####o n####n", "r0301r1352");
        f.step(1);
        Check.same("one cell for both: the robot 0 comes to it", Floors.look(f), "6n 29n");
        Check.same("both have fallen", Floors.counts(f), "0 0 0 1, 0 0 0 1");
        BeltFloor g = Floors.of("###### .##### ###### ###### o####o n####n", "r0301r1352c06");
        g.step(1);
        Check.same("a crate is on the only floor", Floors.look(g), "24n 29n c6");
        Check.same("both have fallen", Floors.counts(g), "0 0 0 1, 0 0 0 1");
        g.takeCrate(6);
        g.step(1);
        Check.same("it is gone", Floors.look(g), "6n 29n");
        Check.same("both have fallen again", Floors.counts(g), "0 0 0 2, 0 0 0 2");
        // A robot on a pit is pushed, and blocks a belt.
        BeltFloor h = Floors.of("###### ###### ###### ###### nonn## wn###e", "r0310r1263i150.");
        h.step(1);
        Check.same("a robot on a pit", Floors.look(h), "25n 26w");
        h.step(1);
        Check.same("it is pushed from it, and the other one falls", Floors.look(h), "24n 25n");
        Check.same("falls", Floors.counts(h), "0 0 0 1, 1 0 1 1");
        // One that can walk off its pit does, and does not fall then.
        BeltFloor i = Floors.of("###### ###### ###### n##### o##### n####.", "i050.");
        i.step(1);
        Check.same("on the pit", Floors.look(i), "24n 35n");
        i.step(1);
        Check.same("off the pit, at the next belt's end", Floors.look(i), "18n 35n");
        Check.same("falls", Floors.counts(i), "1 0 0 1, 0 0 0 0");
    }
}
