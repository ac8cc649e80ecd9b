/** Promise 41. */
final class SimulationTest {
    private static final String BUSY = "F..#e......s.o..wn....e......s......."
            + "c07c15p09p20r0133r1221i00030.i110.";

    public static void main(String[] args) {
        wrong();
        eachTurn();
        turnsTogether();
        longSeeds();
        nothingChanges();
        Check.end();
    }

    private static void wrong() {
        BeltFloor f = new BeltFloor();
        for (int m : new int[] {0, 61, -1, Integer.MIN_VALUE, Integer.MAX_VALUE}) {
            Check.badArgument("simulate " + m, () -> f.simulate(1L, m));
        }
    }

    /** Makes a turn by the calls that the document names; returns the checkpoints that are passed. */
    private static int turn(BeltFloor f, long x) {
        int r = (int) (x >>> 33);
        int q = r / 16;
        try {
            switch (r % 16) {
                case 0, 1, 2 -> f.setKind(q % 36, q / 64 % 7);
                case 3, 4 -> f.addCrate(q % 36);
                case 5 -> f.addCheckpoint(q % 36);
                case 6 -> f.putRobot(q % 2, q / 2 % 36, q / 128 % 4);
                case 7, 8, 9, 10 -> f.write(q % 2, q / 2 % 6);
                case 11 -> {
                    if (q / 2 % 4 == 0) {
                        f.wipe(q % 2);
                    }
                }
                default -> {
                    return f.step(1 + q % 4);
                }
            }
        } catch (RuntimeException e) {
            // What would throw is left out.
        }
        return 0;
    }

    private static long following(long x) {
        return x * 6364136223846793005L + 1442695040888963407L;
    }

    private static void compare(String text, long seed, int m) {
        BeltFloor f = Floors.of(text);
        BeltFloor twin = Floors.of(text);
        long x = seed;
        int passed = 0;
        for (int i = 0; i < m; i++) {
            x = following(x);
            passed += turn(twin, x);
        }
        Check.same("simulate(" + seed + ", " + m + ") of " + text, f.simulate(seed, m),
                10000 * passed + 100 * twin.cellOf(0) + twin.cellOf(1));
    }

    private static void eachTurn() {
        for (long seed = -300; seed < 300; seed++) {
            compare(BUSY, seed, 1);
            compare(BUSY, seed, 2);
        }
    }

    private static void turnsTogether() {
        for (long seed = 0; seed < 400; seed++) {
            compare(BUSY, seed * 1234567890123L, 1 + (int) (seed % 60));
            compare(Floors.EMPTY, seed, 60);
            compare(Floors.EMPTY + "i0000300003.i100030000.r1352p18p19p20p14", seed, 60);
        }
    }

    private static void longSeeds() {
        for (long seed : new long[] {Long.MIN_VALUE, Long.MAX_VALUE, -1L, 0L, 1L << 63 >>> 1}) {
            compare(BUSY, seed, 60);
        }
        // These were told by NaiveFloor, which is written in another way.
        BeltFloor f = Floors.of(BUSY);
        NaiveFloor n = new NaiveFloor();
        for (char c : BUSY.toCharArray()) {
            n.append(c);
        }
        n.load();
        for (long seed = 0; seed < 200; seed++) {
            Check.same("simulate " + seed, f.simulate(seed, 60), n.simulate(seed, 60));
        }
    }

    private static void nothingChanges() {
        BeltFloor f = Floors.of(BUSY);
        f.step(1);
        f.save(0);
        f.step(1);
        String before = Floors.picture(f);
        int first = f.simulate(99, 60);
        Check.same("the same again", f.simulate(99, 60), first);
        Check.same("the floor stays", Floors.picture(f).equals(before), true);
        Check.same("no action", f.undo(), 1);
        Check.same("the slot stays", f.restore(0), 1);
    }
}
