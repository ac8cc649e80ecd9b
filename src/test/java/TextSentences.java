import java.util.regex.Matcher;
import java.util.regex.Pattern;

/** The sentences of TEXT. */
final class TextSentences {
    private static final String ABOUT = "TEXT";
    private static final String CELL = "([0-2][0-9]|3[0-5])";
    private static final Pattern FLOOR = Pattern.compile("F[.#onesw]{36}(c" + CELL + "|p" + CELL + "|r[01]" + CELL
            + "[0-3]|i[01][0-5]{1,10}\\.)*");

    private TextSentences() {
    }

    static void all() {
        Doc.says(ABOUT, "The object has a text buffer of at most 120 characters.", TextSentences::atMost120);
        Doc.says(ABOUT, "A floor as a text is the letter F,", TextSentences::theLetterF);
        Doc.says(ABOUT, "then 36 signs for the cells in their order", TextSentences::thirtySixSigns);
        Doc.says(ABOUT, "(a full stop: floor; #: a block; o: a pit; n, e, s or w: a belt to the north, the east, the"
                + " south, the west),", TextSentences::signs);
        Doc.says(ABOUT, "and then any number of these:", TextSentences::anyNumber);
        Doc.says(ABOUT, "c and a cell: addCrate();", TextSentences::crates);
        Doc.says(ABOUT, "p and a cell: addCheckpoint();", TextSentences::checkpoints);
        Doc.says(ABOUT, "r, a robot (0 or 1), a cell, and a direction (0 to 3): putRobot();", TextSentences::robots);
        Doc.says(ABOUT, "i, a robot, and 1 to 10 digits (0 to 5), and a full stop:", TextSentences::programs);
        Doc.says(ABOUT, "these instructions come to the end of its program, one after the other, by write().",
                TextSentences::programsGrow);
        Doc.says(ABOUT, "A cell is two digits, 00 to 35.", TextSentences::cells);
        Doc.says(ABOUT, "There are no blanks.", TextSentences::blanks);
        Doc.says(ABOUT, "The text is read from left to right.", TextSentences::leftToRight);
        Doc.says(ABOUT, "The error position is the index of the first character that these rules do not allow at its"
                + " place", TextSentences::firstCharacter);
        Doc.says(ABOUT, "(a digit is not allowed if no number that is allowed begins with it and those before it);",
                TextSentences::digits);
        Doc.says(ABOUT, "if the text ends too soon, it is the length of the text.", TextSentences::tooSoon);
        Doc.says(ABOUT, "if the text ends too soon, it is the length of the text.", TextSentences::noText);
    }

    private static BeltFloor typed(String text) {
        BeltFloor f = new BeltFloor();
        Floors.type(f, text);
        return f;
    }

    /** The error position of a text; -1 for a floor. A text with an error is not loaded, and one without is. */
    private static void error(String text, int due) {
        BeltFloor f = typed(text);
        Check.same("errorPosition of " + text, f.errorPosition(), due);
        Check.same("again", f.errorPosition(), due);
        Check.same("load of " + text, Check.outcome(f::load).startsWith("answers"), due < 0);
        Check.same("length of " + text, f.clearText(), text.length());
    }

    /** The error position of items behind a whole floor, counted from the first of them. */
    private static void errorIn(String items, int due) {
        error(Floors.EMPTY + items, due < 0 ? due : 37 + due);
        error("F#oneswn.............................c00i15.r0123" + items, due < 0 ? due : 49 + due);
    }

    private static void atMost120() {
        BeltFloor f = new BeltFloor();
        for (int n = 1; n <= 120; n++) {
            Check.same("character " + n, f.append(n), n);
        }
        Check.badState("one more", () -> f.append('F'));
        Check.same("length", f.clearText(), 120);
        Check.same("one, behind clearText", f.append('F'), 1);
        Whole.refusesState("one more", Whole.FULL, g -> g.append('c'));
        BeltFloor g = typed(Whole.fullText());
        Check.same("a floor of 120 characters", g.errorPosition(), -1);
        Check.same("which leaves out those on the same cell", g.load(), 25);
        error(Whole.fullText().substring(0, 117) + "i0.", 119);
        error(Whole.fullText().substring(0, 117) + "c3x", 119);
        error(Whole.fullText().substring(0, 117) + "r03", 120);
    }

    private static void theLetterF() {
        error("F", 1);
        for (int c = 0; c < 256; c++) {
            if (c != 'F') {
                error((char) c + Floors.EMPTY.substring(1), 0);
                error("" + (char) c, 0);
            }
        }
        error("F" + Floors.EMPTY, 1);
    }

    private static void thirtySixSigns() {
        error(Floors.EMPTY, -1);
        error(Floors.EMPTY.substring(0, 36), 36);
        error(Floors.EMPTY + ".", 37);
        error(Floors.EMPTY.substring(0, 36) + "c00", 36);
        error(Floors.EMPTY.substring(0, 36) + "F", 36);
        for (int cell = 0; cell < 36; cell++) {
            char[] text = Floors.EMPTY.toCharArray();
            text[1 + cell] = 'e';
            BeltFloor f = Floors.of(new String(text));
            for (int other = 0; other < 36; other++) {
                Check.same("kind of " + other, f.kindOf(other), other == cell ? 4 : 0);
            }
        }
    }

    private static void signs() {
        String signs = ".#onesw";
        for (int c = 0; c < 256; c++) {
            int kind = signs.indexOf(c);
            String text = Floors.EMPTY.substring(0, 15) + (char) c + Floors.EMPTY.substring(16);
            error(text, kind < 0 ? 15 : -1);
            if (kind >= 0) {
                Check.same("kind of the sign " + (char) c, Floors.of(text).kindOf(14), kind);
            }
        }
    }

    private static void anyNumber() {
        String text = Floors.EMPTY;
        for (int items = 0; items <= 27; items++) {
            error(text, -1);
            text += "c07";
        }
        error(text.substring(0, 120), 120);
        error(text.substring(0, 119), 119);
        errorIn("", -1);
        errorIn("p00r0001i00.c00", -1);
        errorIn("c00c01p02p03r0001r1001i00.i10.", -1);
        errorIn("c00x", 3);
        errorIn("c00F", 3);
        errorIn("c00.", 3);
        for (int c = 0; c < 256; c++) {
            error(Floors.EMPTY + (char) c, "cpri".indexOf(c) >= 0 ? 38 : 37);
        }
    }

    private static void crates() {
        for (int cell = 0; cell < 36; cell++) {
            BeltFloor f = typed(Floors.EMPTY + "c" + two(cell));
            boolean robot = cell == 30 || cell == 35;
            Check.same("left out", f.load(), robot ? 1 : 0);
            Check.same("a crate on " + cell, Floors.look(f), "30n 35n" + (robot ? "" : " c" + cell));
        }
        errorIn("c", 1);
        errorIn("c0", 2);
        errorIn("c.", 1);
        errorIn("c0.", 2);
        errorIn("cc00", 1);
        errorIn("C00", 0);
    }

    private static void checkpoints() {
        for (int cell = 0; cell < 36; cell++) {
            BeltFloor f = Floors.of(Floors.EMPTY + "p" + two(cell));
            Check.same("checkpoints", f.checkpoints(), 1);
            Check.same("its cell", f.cellOfCheckpoint(1), cell);
        }
        errorIn("p", 1);
        errorIn("p3", 2);
        errorIn("p3.", 2);
        errorIn("pp00", 1);
        errorIn("P00", 0);
    }

    private static void robots() {
        for (int cell = 0; cell < 30; cell++) {
            for (int facing = 0; facing < 4; facing++) {
                Check.same("robot 0", Floors.look(Floors.of(Floors.EMPTY + "r0" + two(cell) + facing)),
                        cell + "" + "nesw".charAt(facing) + " 35n");
                Check.same("robot 1", Floors.look(Floors.of(Floors.EMPTY + "r1" + two(cell) + facing)),
                        "30n " + cell + "nesw".charAt(facing));
            }
        }
        errorIn("r", 1);
        errorIn("r/", 1);
        errorIn("r2", 1);
        errorIn("r9", 1);
        errorIn("r.", 1);
        errorIn("r0", 2);
        errorIn("r1", 2);
        errorIn("r14", 2);
        errorIn("r03", 3);
        errorIn("r036", 3);
        errorIn("r000", 4);
        errorIn("r000/", 4);
        errorIn("r0000", -1);
        errorIn("r1353", -1);
        errorIn("r1354", 4);
        errorIn("r135.", 4);
        errorIn("r00000", 5);
        errorIn("R0000", 0);
    }

    private static void programs() {
        String digits = "0123450123";
        for (int length = 1; length <= 10; length++) {
            errorIn("i0" + digits.substring(0, length) + ".", -1);
            errorIn("i1" + digits.substring(0, length) + ".", -1);
            errorIn("i0" + digits.substring(0, length), 2 + length);
            errorIn("i0" + digits.substring(0, length) + "c", 2 + length);
            errorIn("i0" + digits.substring(0, length - 1) + "6.", 1 + length);
            errorIn("i0" + digits.substring(0, length - 1) + "/.", 1 + length);
            BeltFloor f = Floors.of(Floors.EMPTY + "i1" + digits.substring(0, length) + ".");
            Check.same("length", f.lengthOf(1), length);
            Check.same("length of the other one", f.lengthOf(0), 0);
            for (int place = 0; place < length; place++) {
                Check.same("instruction " + place, f.instructionAt(1, place), place % 6);
            }
        }
        errorIn("i0" + digits + "4.", 12);
        errorIn("i0" + digits + "4", 12);
        errorIn("i0.", 2);
        errorIn("i.", 1);
        errorIn("i2.", 1);
        errorIn("i", 1);
        errorIn("i0", 2);
        errorIn("i00..", 4);
        errorIn("I00.", 0);
    }

    private static void programsGrow() {
        BeltFloor f = Floors.of(Floors.EMPTY + "i052.i14.i0301.i12.");
        int[] due = {5, 2, 3, 0, 1};
        Check.same("length of 0", f.lengthOf(0), due.length);
        for (int place = 0; place < due.length; place++) {
            Check.same("instruction " + place, f.instructionAt(0, place), due[place]);
        }
        Check.same("length of 1", f.lengthOf(1), 2);
        Check.same("its first one", f.instructionAt(1, 0), 4);
        Check.same("its second one", f.instructionAt(1, 1), 2);
        BeltFloor g = typed(Floors.EMPTY + "i000000000.i012345.");
        Check.same("what finds no room", g.load(), 3);
        Check.same("length", g.lengthOf(0), 10);
        Check.same("the ninth one", g.instructionAt(0, 8), 1);
        Check.same("the tenth one", g.instructionAt(0, 9), 2);
    }

    private static void cells() {
        for (int number = 0; number < 100; number++) {
            int due = number <= 35 ? -1 : number < 40 ? 1 : 0;
            errorIn("c" + two(number), due < 0 ? due : 1 + due);
            errorIn("p" + two(number), due < 0 ? due : 1 + due);
            errorIn("r0" + two(number) + "0", due < 0 ? due : 2 + due);
        }
        errorIn("c5c05", 1);
        errorIn("c0c05", 2);
        errorIn("c005", 3);
        errorIn("c0", 2);
    }

    private static String two(int number) {
        return "" + number / 10 + number % 10;
    }

    private static void blanks() {
        String text = Floors.EMPTY + "c00p01r0123i1012.";
        for (int at = 0; at <= text.length(); at++) {
            error(text.substring(0, at) + " " + text.substring(at), at);
        }
        error(text + "\n", text.length());
        error(text + "\t", text.length());
    }

    private static void leftToRight() {
        BeltFloor f = Floors.of(Floors.EMPTY + "p07p03r0062c30i054.");
        Check.same("the first checkpoint", f.cellOfCheckpoint(1), 7);
        Check.same("the second one", f.cellOfCheckpoint(2), 3);
        Check.same("a crate where the robot was", Floors.look(f), "6s 35n c30");
        Check.same("the first instruction", f.instructionAt(0, 0), 5);
        BeltFloor g = typed(Floors.EMPTY + "c30r0062");
        Check.same("the other way round", g.load(), 1);
        Check.same("the other way round", Floors.look(g), "6s 35n");
        // The first of two errors counts.
        error(Floors.EMPTY + "c99i0.", 38);
        error("F" + "x" + Floors.EMPTY.substring(2) + "c99", 1);
    }

    /** Behind each beginning of a floor, each of the 256 characters. */
    private static void firstCharacter() {
        String text = "F.#oneswnesw.........................c05p35r0170r1303i10.i00123450123.";
        for (int length = 0; length < text.length(); length++) {
            String beginning = text.substring(0, length);
            for (int c = 0; c < 256; c++) {
                String longer = beginning + (char) c;
                Matcher matcher = FLOOR.matcher(longer);
                boolean floor = matcher.matches();
                boolean allowed = floor || matcher.hitEnd();
                BeltFloor f = typed(longer);
                Check.same("errorPosition of " + longer, f.errorPosition(), floor ? -1 : allowed ? length + 1 : length);
                if (!allowed) {
                    Floors.type(f, "c00");
                    Check.same("with more behind it: " + longer, f.errorPosition(), length);
                }
            }
        }
    }

    private static void digits() {
        errorIn("c4", 1);
        errorIn("c40", 1);
        errorIn("c36", 2);
        errorIn("c35", -1);
        errorIn("c29", -1);
        errorIn("c39", 2);
        errorIn("p9", 1);
        errorIn("r0400", 2);
        errorIn("r1360", 3);
        errorIn("r0354", 4);
        errorIn("r2", 1);
        errorIn("i2", 1);
        errorIn("i06", 2);
        errorIn("i001234501230", 12);
    }

    private static void tooSoon() {
        String text = "F.#oneswnesw.........................c05p35r0170i00123450123.i10.";
        for (int length = 0; length < text.length(); length++) {
            String beginning = text.substring(0, length);
            error(beginning, FLOOR.matcher(beginning).matches() ? -1 : length);
        }
        error(text, -1);
    }

    private static void noText() {
        BeltFloor f = new BeltFloor();
        Check.same("errorPosition of a new object", f.errorPosition(), 0);
        Check.badState("load of it", f::load);
        Floors.type(f, Floors.EMPTY);
        f.clearText();
        Check.same("errorPosition behind clearText", f.errorPosition(), 0);
        Check.badState("load behind clearText", f::load);
    }
}
