/** The sentences of PROGRAMS. */
final class ProgramSentences {
    private static final String ABOUT = "PROGRAMS";

    private ProgramSentences() {
    }

    static void all() {
        Doc.says(ABOUT, "Each robot has a program of at most 10 instructions,", ProgramSentences::atMostTen);
        Doc.says(ABOUT, "and a place in it (0 for the first instruction), which is the instruction that it follows next.",
                ProgramSentences::places);
        Doc.says(ABOUT, "The instructions are 0: go forward, 1: go back, 2: turn left (from north to west), 3: turn"
                + " right, 4: turn round, 5: wait.", ProgramSentences::instructions);
        Doc.says(ABOUT, "Behind the last instruction comes the first one again.", ProgramSentences::theFirstOneAgain);
        Doc.says(ABOUT, "Behind the last instruction comes the first one again.", ProgramSentences::longerBehindTheLast);
        Doc.says(ABOUT, "A robot without a program waits.", ProgramSentences::withoutAProgram);
        Doc.says(ABOUT, "A robot without a program waits.", ProgramSentences::wipedOnItsWay);
    }

    private static void atMostTen() {
        for (int robot = 0; robot < 2; robot++) {
            int r = robot;
            BeltFloor f = new BeltFloor();
            for (int n = 1; n <= 10; n++) {
                Check.same("instruction " + n, f.write(r, n % 6), n);
            }
            Check.badState("an eleventh one", () -> f.write(r, 5));
            Check.same("length", f.lengthOf(r), 10);
            Check.same("the other one's length", f.lengthOf(1 - r), 0);
            Check.same("the other one's first", f.write(1 - r, 5), 1);
            Whole.refusesState("an eleventh one", Whole.FULL, g -> g.write(r, 5));
            BeltFloor g = new BeltFloor();
            Floors.type(g, Floors.EMPTY + "i" + r + "0123450123.i" + r + "5.");
            Check.same("an eleventh one in a text", g.load(), 1);
            Check.same("length of the text", g.lengthOf(r), 10);
        }
    }

    private static void places() {
        String program = "5302140325";
        BeltFloor f = Floors.of(Floors.EMPTY + "r0140i0" + program + ".i133333.");
        int facing = 0;
        for (int step = 0; step < 25; step++) {
            int place = f.placeOf(0);
            Check.same("place of 0", place, step % 10);
            Check.same("place of 1", f.placeOf(1), step % 5);
            int instruction = f.instructionAt(0, place);
            Check.same("the instruction there", instruction, program.charAt(step % 10) - '0');
            int before = f.cellOf(0);
            f.step(1);
            facing = (facing + new int[] {0, 0, 3, 1, 2, 0}[instruction]) % 4;
            Check.same("it followed it", f.facingOf(0), facing);
            Check.same("it moved", f.cellOf(0) != before, instruction <= 1);
        }
    }

    private static void instructions() {
        String[] due = {"8n", "20n", "14w", "14e", "14s", "14n", "15e", "13e", "14n", "14s", "14w", "14e",
            "20s", "8s", "14e", "14w", "14n", "14s", "13w", "15w", "14s", "14n", "14e", "14w"};
        for (int facing = 0; facing < 4; facing++) {
            for (int instruction = 0; instruction <= 5; instruction++) {
                BeltFloor f = Floors.of(Floors.EMPTY + "r014" + facing + "i0" + instruction + ".");
                f.step(1);
                String what = "facing " + facing + " instruction " + instruction;
                Check.same(what, Floors.look(f), due[6 * facing + instruction] + " 35n");
                BeltFloor g = Floors.of(Floors.EMPTY + "r114" + facing + "i1" + instruction + ".");
                g.step(1);
                Check.same(what + " of the robot 1", Floors.look(g), "30n " + due[6 * facing + instruction]);
            }
        }
    }

    /** For each length: the place goes from 0 to the last one and round, and so do the instructions. */
    private static void theFirstOneAgain() {
        for (int length = 1; length <= 10; length++) {
            BeltFloor f = Floors.of(Floors.EMPTY + "i03" + "5555555555".substring(0, length - 1) + ".");
            for (int step = 1; step <= 25; step++) {
                f.step(1);
                Check.same("place of " + length, f.placeOf(0), step % length);
                Check.same("facing", f.facingOf(0), ((step - 1) / length + 1) % 4);
            }
            BeltFloor g = Floors.of(Floors.EMPTY + "i13" + "5555555555".substring(0, length - 1) + ".");
            g.step(25);
            Check.same("place at once", g.placeOf(1), 25 % length);
            Check.same("place of the other one", g.placeOf(0), 0);
        }
    }

    /** Behind the last one it is the first one's turn at once, also if the program grows then. */
    private static void longerBehindTheLast() {
        BeltFloor f = Floors.of(Floors.EMPTY + "i035.");
        f.step(2);
        Check.same("place", f.placeOf(0), 0);
        f.write(0, 4);
        Check.same("place behind write", f.placeOf(0), 0);
        f.step(1);
        Check.same("the first one was followed", f.facingOf(0), 2);
        Check.same("place", f.placeOf(0), 1);
        f.step(1);
        Check.same("place", f.placeOf(0), 2);
        f.step(1);
        Check.same("the new one was followed", f.facingOf(0), 0);
        Check.same("place", f.placeOf(0), 0);
    }

    private static void withoutAProgram() {
        BeltFloor f = Floors.of(Floors.EMPTY + "r0141r1170i13.");
        f.step(40);
        Check.same("it stands", Floors.look(f), "14e 17n");
        Check.same("it has neither moved nor bumped", Floors.counts(f), "0 0 0 0, 0 0 0 0");
        Check.same("place", f.placeOf(0), 0);
        Check.same("steps", f.steps(), 40);
        BeltFloor g = Floors.of(Floors.EMPTY + "r0141r1163i10.");
        Check.same("it does not clash", g.wouldClash(), false);
        g.step(1);
        Check.same("the other one moves", Floors.look(g), "14e 15w");
        g.step(1);
        Check.same("it is pushed", Floors.look(g), "13e 14w");
    }

    private static void wipedOnItsWay() {
        BeltFloor f = Floors.of(Floors.EMPTY + "i0003.");
        f.step(2);
        f.wipe(0);
        f.step(5);
        Check.same("it waits", Floors.look(f), "18n 35n");
        Check.same("place", f.placeOf(0), 0);
        f.write(0, 4);
        Check.same("place of the new program", f.placeOf(0), 0);
        f.step(1);
        Check.same("it follows it", Floors.look(f), "18s 35n");
    }
}
