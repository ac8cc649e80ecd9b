import java.util.ArrayDeque;
import java.util.ArrayList;
import java.util.Arrays;
import java.util.HashMap;
import java.util.LinkedList;
import java.util.List;
import java.util.Map;
import java.util.regex.Matcher;
import java.util.regex.Pattern;

/** The document told again in another way (things in lists, whole copies), to compare long runs with. */
final class NaiveFloor {
    private static final String CELL = "(?:[0-2][0-9]|3[0-5])";
    private static final String ITEM = "(c" + CELL + "|p" + CELL + "|r[01]" + CELL + "[0-3]|i[01][0-5]{1,10}\\.)";
    private static final Pattern FLOOR = Pattern.compile("F[.#onesw]{36}" + ITEM + "*");

    private static final class Thing {
        final int robot;
        int row;
        int column;

        Thing(int robot, int cell) {
            this.robot = robot;
            put(cell);
        }

        void put(int cell) {
            row = cell / 6;
            column = cell % 6;
        }

        int cell() {
            return 6 * row + column;
        }
    }

    private static final class State {
        final int[] kinds = new int[36];
        final List<Thing> things = new ArrayList<>();
        final List<Integer> checkpoints = new ArrayList<>();
        final List<List<Integer>> programs = new ArrayList<>();
        final int[] place = new int[2];
        final int[] facing = new int[2];
        final int[] next = {1, 1};
        final int[] moves = new int[2];
        final int[] bumps = new int[2];
        final int[] pushes = new int[2];
        final int[] falls = new int[2];
        int lost;
        int steps;

        State() {
            things.add(new Thing(0, 30));
            things.add(new Thing(1, 35));
            programs.add(new ArrayList<>());
            programs.add(new ArrayList<>());
        }

        State copy() {
            State s = new State();
            System.arraycopy(kinds, 0, s.kinds, 0, 36);
            s.things.clear();
            for (Thing t : things) {
                s.things.add(new Thing(t.robot, t.cell()));
            }
            s.checkpoints.addAll(checkpoints);
            for (int r = 0; r < 2; r++) {
                s.programs.get(r).addAll(programs.get(r));
            }
            int[][] from = {place, facing, next, moves, bumps, pushes, falls};
            int[][] to = {s.place, s.facing, s.next, s.moves, s.bumps, s.pushes, s.falls};
            for (int i = 0; i < from.length; i++) {
                System.arraycopy(from[i], 0, to[i], 0, 2);
            }
            s.lost = lost;
            s.steps = steps;
            return s;
        }

        Thing at(int row, int column) {
            for (Thing t : things) {
                if (t.row == row && t.column == column) {
                    return t;
                }
            }
            return null;
        }

        Thing robot(int r) {
            return things.stream().filter(t -> t.robot == r).findFirst().get();
        }

        int crates() {
            return things.size() - 2;
        }

        /** The kind at a place on the floor, -1 beside it. */
        int kind(int row, int column) {
            return row < 0 || row > 5 || column < 0 || column > 5 ? -1 : kinds[6 * row + column];
        }

        boolean hole(int cell) {
            return kinds[cell] == 1 || kinds[cell] == 2;
        }

        String floorPicture() {
            List<Integer> cells = new ArrayList<>();
            things.stream().filter(t -> t.robot < 0).forEach(t -> cells.add(t.cell()));
            cells.sort(null);
            return cells + " " + robot(0).cell() + " " + robot(1).cell() + " " + facing[0] + facing[1]
                    + " " + next[0] + next[1] + " " + Arrays.toString(place);
        }
    }

    private static final int[] DOWN = {-1, 0, 1, 0};
    private static final int[] ASIDE = {0, 1, 0, -1};

    private String text = "";
    private State now = new State();
    private final LinkedList<State> remembered = new LinkedList<>();
    private final State[] slots = new State[2];

    // ---- text

    int append(int c) {
        argument(c >= 0 && c <= 255);
        state(text.length() < 120);
        text += (char) c;
        return text.length();
    }

    int clearText() {
        int n = text.length();
        text = "";
        return n;
    }

    int errorPosition() {
        if (FLOOR.matcher(text).matches()) {
            return -1;
        }
        int good = 0;
        while (good < text.length() && begins(text.substring(0, good + 1))) {
            good++;
        }
        return good;
    }

    private static boolean begins(String beginning) {
        Matcher m = FLOOR.matcher(beginning);
        return m.matches() || m.hitEnd();
    }

    int load() {
        state(errorPosition() == -1);
        now = new State();
        slots[0] = null;
        slots[1] = null;
        int left = 0;
        for (int cell = 0; cell < 36; cell++) {
            int kind = ".#onesw".indexOf(text.charAt(cell + 1));
            int c = cell;
            left += leftOut(() -> setKind(c, kind));
        }
        Matcher m = Pattern.compile(ITEM).matcher(text.substring(37));
        while (m.find()) {
            String item = m.group();
            int robot = item.charAt(1) - '0';
            switch (item.charAt(0)) {
                case 'c' -> left += leftOut(() -> addCrate(Integer.parseInt(item.substring(1))));
                case 'p' -> left += leftOut(() -> addCheckpoint(Integer.parseInt(item.substring(1))));
                case 'r' -> left += leftOut(() -> putRobot(robot, Integer.parseInt(item.substring(2, 4)),
                        item.charAt(4) - '0'));
                default -> {
                    for (char c : item.substring(2, item.length() - 1).toCharArray()) {
                        left += leftOut(() -> write(robot, c - '0'));
                    }
                }
            }
        }
        remembered.clear();
        return left;
    }

    private static int leftOut(Runnable call) {
        try {
            call.run();
            return 0;
        } catch (RuntimeException e) {
            return 1;
        }
    }

    // ---- the floor, robots, programs

    int kindOf(int cell) {
        index(cell, 0, 35);
        return now.kinds[cell];
    }

    boolean hasCrate(int cell) {
        index(cell, 0, 35);
        Thing t = now.at(cell / 6, cell % 6);
        return t != null && t.robot < 0;
    }

    int cratesByCells() {
        return now.crates();
    }

    int cratesByAccounts() {
        return now.crates();
    }

    int lost() {
        return now.lost;
    }

    int checkpoints() {
        return now.checkpoints.size();
    }

    int cellOfCheckpoint(int checkpoint) {
        index(checkpoint, 1, now.checkpoints.size());
        return now.checkpoints.get(checkpoint - 1);
    }

    int cellOf(int robot) {
        index(robot, 0, 1);
        return now.robot(robot).cell();
    }

    int facingOf(int robot) {
        index(robot, 0, 1);
        return now.facing[robot];
    }

    int nextOf(int robot) {
        index(robot, 0, 1);
        return now.next[robot];
    }

    boolean isHome(int robot) {
        index(robot, 0, 1);
        return !now.checkpoints.isEmpty() && now.next[robot] == now.checkpoints.size() + 1;
    }

    int movesOf(int robot) {
        index(robot, 0, 1);
        return now.moves[robot];
    }

    int bumpsOf(int robot) {
        index(robot, 0, 1);
        return now.bumps[robot];
    }

    int pushesOf(int robot) {
        index(robot, 0, 1);
        return now.pushes[robot];
    }

    int fallsOf(int robot) {
        index(robot, 0, 1);
        return now.falls[robot];
    }

    int steps() {
        return now.steps;
    }

    int lengthOf(int robot) {
        index(robot, 0, 1);
        return now.programs.get(robot).size();
    }

    int instructionAt(int robot, int place) {
        index(robot, 0, 1);
        index(place, 0, now.programs.get(robot).size() - 1);
        return now.programs.get(robot).get(place);
    }

    int placeOf(int robot) {
        index(robot, 0, 1);
        return now.place[robot];
    }

    // ---- actions

    int setKind(int cell, int kind) {
        index(cell, 0, 35);
        argument(kind >= 0 && kind <= 6);
        boolean used = now.at(cell / 6, cell % 6) != null || now.checkpoints.contains(cell);
        state(!(used && (kind == 1 || kind == 2)));
        remember();
        int was = now.kinds[cell];
        now.kinds[cell] = kind;
        return was;
    }

    int addCrate(int cell) {
        index(cell, 0, 35);
        state(!now.hole(cell) && now.at(cell / 6, cell % 6) == null && now.crates() < 8);
        remember();
        now.things.add(new Thing(-1, cell));
        return now.crates();
    }

    int takeCrate(int cell) {
        index(cell, 0, 35);
        state(hasCrate(cell));
        remember();
        now.things.remove(now.at(cell / 6, cell % 6));
        return now.crates();
    }

    int addCheckpoint(int cell) {
        index(cell, 0, 35);
        state(!now.hole(cell) && !now.checkpoints.contains(cell) && now.checkpoints.size() < 4);
        remember();
        now.checkpoints.add(cell);
        return now.checkpoints.size();
    }

    int putRobot(int robot, int cell, int facing) {
        index(robot, 0, 1);
        index(cell, 0, 35);
        argument(facing >= 0 && facing <= 3);
        Thing there = now.at(cell / 6, cell % 6);
        state(!now.hole(cell) && (there == null || there.robot == robot));
        remember();
        int was = now.robot(robot).cell();
        now.robot(robot).put(cell);
        now.facing[robot] = facing;
        return was;
    }

    int write(int robot, int instruction) {
        index(robot, 0, 1);
        argument(instruction >= 0 && instruction <= 5);
        state(now.programs.get(robot).size() < 10);
        remember();
        now.programs.get(robot).add(instruction);
        return now.programs.get(robot).size();
    }

    int wipe(int robot) {
        index(robot, 0, 1);
        remember();
        int n = now.programs.get(robot).size();
        now.programs.get(robot).clear();
        now.place[robot] = 0;
        return n;
    }

    int step(int n) {
        argument(n >= 1 && n <= 40);
        remember();
        int passed = 0;
        for (int i = 0; i < n; i++) {
            passed += makeStep(now);
        }
        return passed;
    }

    int undo() {
        state(!remembered.isEmpty());
        now = remembered.removeLast();
        return remembered.size();
    }

    private void remember() {
        remembered.addLast(now.copy());
        if (remembered.size() > 14) {
            remembered.removeFirst();
        }
    }

    // ---- a step

    private static int instruction(State s, int robot) {
        List<Integer> program = s.programs.get(robot);
        return program.isEmpty() ? 5 : program.get(s.place[robot]);
    }

    /** The cells of a way, the robot's own first; null if it is blocked. */
    private static List<Integer> way(State s, int robot, int direction) {
        List<Integer> cells = new ArrayList<>();
        Thing r = s.robot(robot);
        int row = r.row;
        int column = r.column;
        while (s.at(row, column) != null) {
            cells.add(6 * row + column);
            row += DOWN[direction];
            column += ASIDE[direction];
        }
        if (s.kind(row, column) == -1 || s.kind(row, column) == 1) {
            return null;
        }
        cells.add(6 * row + column);
        return cells;
    }

    private static boolean clash(List<Integer> one, List<Integer> other) {
        if (one == null || other == null) {
            return false;
        }
        for (int cell : one) {
            if (other.contains(cell)) {
                return true;
            }
        }
        return false;
    }

    private static int makeStep(State s) {
        List<List<Integer>> ways = new ArrayList<>();
        int[] direction = {-1, -1};
        for (int r = 0; r < 2; r++) {
            int i = instruction(s, r);
            if (i == 0 || i == 1) {
                direction[r] = (s.facing[r] + 2 * i) % 4;
            }
            ways.add(direction[r] < 0 ? null : way(s, r, direction[r]));
        }
        boolean clash = clash(ways.get(0), ways.get(1));
        List<Thing> moving = new ArrayList<>();
        List<Integer> along = new ArrayList<>();
        for (int r = 0; r < 2; r++) {
            switch (instruction(s, r)) {
                case 2 -> s.facing[r] = (s.facing[r] + 3) % 4;
                case 3 -> s.facing[r] = (s.facing[r] + 1) % 4;
                case 4 -> s.facing[r] = (s.facing[r] + 2) % 4;
                default -> { }
            }
            if (!s.programs.get(r).isEmpty()) {
                s.place[r] = (s.place[r] + 1) % s.programs.get(r).size();
            }
            if (direction[r] < 0) {
                continue;
            }
            if (clash || ways.get(r) == null) {
                s.bumps[r]++;
                continue;
            }
            s.moves[r]++;
            s.pushes[r] += ways.get(r).size() - 2;
            for (int cell : ways.get(r).subList(0, ways.get(r).size() - 1)) {
                moving.add(s.at(cell / 6, cell % 6));
                along.add(direction[r]);
            }
        }
        for (int i = 0; i < moving.size(); i++) {
            moving.get(i).row += DOWN[along.get(i)];
            moving.get(i).column += ASIDE[along.get(i)];
        }
        carry(s);
        fall(s);
        s.steps++;
        int passed = 0;
        for (int r = 0; r < 2; r++) {
            if (s.next[r] <= s.checkpoints.size() && s.checkpoints.get(s.next[r] - 1) == s.robot(r).cell()) {
                s.next[r]++;
                passed++;
            }
        }
        return passed;
    }

    private static void carry(State s) {
        Map<Thing, Integer> wants = new HashMap<>();
        for (Thing t : s.things) {
            int belt = s.kinds[t.cell()] - 3;
            if (belt >= 0) {
                int row = t.row + DOWN[belt];
                int column = t.column + ASIDE[belt];
                wants.put(t, s.kind(row, column) == -1 ? -1 : 6 * row + column);
            }
        }
        List<Thing> carried = new ArrayList<>(wants.keySet());
        boolean changed = true;
        while (changed) {
            changed = carried.removeIf(t -> !goes(s, t, wants, carried));
        }
        for (Thing t : carried) {
            t.put(wants.get(t));
        }
    }

    private static boolean goes(State s, Thing t, Map<Thing, Integer> wants, List<Thing> carried) {
        int to = wants.get(t);
        if (to == -1 || s.kinds[to] == 1) {
            return false;
        }
        for (Thing other : s.things) {
            if (other == t) {
                continue;
            }
            if (wants.containsKey(other) && wants.get(other) == to) {
                return false;
            }
            if (other.cell() == to) {
                boolean back = wants.containsKey(other) && wants.get(other) == t.cell();
                if (back || !carried.contains(other)) {
                    return false;
                }
            }
        }
        return true;
    }

    private static void fall(State s) {
        int before = s.things.size();
        s.things.removeIf(t -> t.robot < 0 && s.kinds[t.cell()] == 2);
        s.lost += before - s.things.size();
        for (int r = 0; r < 2; r++) {
            if (s.kinds[s.robot(r).cell()] != 2) {
                continue;
            }
            s.falls[r]++;
            s.facing[r] = 0;
            for (int cell = 0; cell < 36; cell++) {
                if (s.kinds[cell] == 0 && s.at(cell / 6, cell % 6) == null) {
                    s.robot(r).put(cell);
                    break;
                }
            }
        }
    }

    // ---- what would be

    int rowAhead(int robot) {
        index(robot, 0, 1);
        List<Integer> way = way(now, robot, now.facing[robot]);
        return way == null ? -1 : way.size() - 2;
    }

    boolean wouldClash() {
        State after = now.copy();
        makeStep(after);
        // Only a clash makes both bump though each could move if the other did not want to.
        boolean both = true;
        for (int r = 0; r < 2; r++) {
            State alone = now.copy();
            alone.programs.get(1 - r).clear();
            alone.place[1 - r] = 0;
            makeStep(alone);
            both &= after.bumps[r] > now.bumps[r] && alone.bumps[r] == now.bumps[r];
        }
        return both;
    }

    int passesIn(int robot) {
        index(robot, 0, 1);
        State s = now.copy();
        for (int i = 1; i <= 150; i++) {
            makeStep(s);
            if (s.next[robot] > now.next[robot]) {
                return i;
            }
        }
        return -1;
    }

    int loopByWaiting() {
        State s = now.copy();
        List<String> floors = new ArrayList<>();
        for (int i = 0; i <= 240; i++) {
            floors.add(s.floorPicture());
            makeStep(s);
        }
        int later = floors.subList(121, 241).indexOf(floors.get(120));
        return later < 0 ? -1 : later + 1;
    }

    int loopByKeeping() {
        return loopByWaiting();
    }

    int fewestBySpreading(int robot, int cell) {
        index(robot, 0, 1);
        index(cell, 0, 35);
        Map<Integer, Integer> fewest = new HashMap<>();
        ArrayDeque<Integer> open = new ArrayDeque<>();
        int start = 10 * now.robot(robot).cell() + now.facing[robot];
        fewest.put(start, 0);
        open.add(start);
        while (!open.isEmpty()) {
            int at = open.poll();
            if (at / 10 == cell) {
                return fewest.get(at);
            }
            List<Integer> reached = new ArrayList<>();
            for (int turn = 1; turn < 4; turn++) {
                reached.add(at / 10 * 10 + (at % 10 + turn) % 4);
            }
            for (int go = 0; go < 2; go++) {
                int d = (at % 10 + 2 * go) % 4;
                int row = at / 10 / 6 + DOWN[d];
                int column = at / 10 % 6 + ASIDE[d];
                int kind = now.kind(row, column);
                if (kind == 0 || kind > 2) {
                    reached.add(10 * (6 * row + column) + at % 10);
                }
            }
            for (int to : reached) {
                if (fewest.putIfAbsent(to, fewest.get(at) + 1) == null) {
                    open.add(to);
                }
            }
        }
        return -1;
    }

    int fewestBySweeping(int robot, int cell) {
        return fewestBySpreading(robot, cell);
    }

    // ---- a simulation and save slots

    int simulate(long seed, int m) {
        argument(m >= 1 && m <= 60);
        NaiveFloor copy = new NaiveFloor();
        copy.now = now.copy();
        int[] passed = {0};
        long x = seed;
        for (int i = 0; i < m; i++) {
            x = x * 6364136223846793005L + 1442695040888963407L;
            int r = (int) (x >>> 33);
            leftOut(() -> passed[0] += copy.turn(r % 16, r / 16));
        }
        return 10000 * passed[0] + 100 * copy.cellOf(0) + copy.cellOf(1);
    }

    private int turn(int what, int q) {
        if (what <= 2) {
            setKind(q % 36, q / 64 % 7);
        } else if (what <= 4) {
            addCrate(q % 36);
        } else if (what == 5) {
            addCheckpoint(q % 36);
        } else if (what == 6) {
            putRobot(q % 2, q / 2 % 36, q / 128 % 4);
        } else if (what <= 10) {
            write(q % 2, q / 2 % 6);
        } else if (what == 11) {
            if (q / 2 % 4 == 0) {
                wipe(q % 2);
            }
        } else {
            return step(1 + q % 4);
        }
        return 0;
    }

    int save(int slot) {
        index(slot, 0, 1);
        slots[slot] = now.copy();
        return now.steps;
    }

    int restore(int slot) {
        index(slot, 0, 1);
        state(slots[slot] != null);
        now = slots[slot].copy();
        remembered.clear();
        return now.steps;
    }

    private static void index(int i, int least, int most) {
        if (i < least || i > most) {
            throw new IndexOutOfBoundsException();
        }
    }

    private static void argument(boolean good) {
        if (!good) {
            throw new IllegalArgumentException();
        }
    }

    private static void state(boolean good) {
        if (!good) {
            throw new IllegalStateException();
        }
    }
}
