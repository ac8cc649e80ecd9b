/** Promise 41. */
final class SimulationTest {
    private static final String BUSY = "F..#e......s.o..wn....e......s......."
            + "c07c15p09p20r0133r1221i00030.i110.";

    public static void main(String[] args) {
        wrong();
        eachTurn();
        turnsTogether();
        longSeeds();
        nothingChanges();
        Check.end();
    }

    private static void wrong() {
        BeltFloor f = new BeltFloor();
        for (int m : new int[] {0, 61, -1, Integer.MIN_VALUE, Integer.MAX_VALUE}) {
            Check.badArgument("simulate " + m, () -> f.simulate(1L, m));
        }
    }

    private static void compare(String text, long seed, int m) {
        int due = Turns.due(f -> {
            Floors.type(f, text);
            f.load();
        }, seed, m);
        Check.same("simulate(" + seed + ", " + m + ") of " + text, Floors.of(text).simulate(seed, m), due);
    }

    private static void eachTurn() {
        for (long seed = -300; seed < 300; seed++) {
            compare(BUSY, seed, 1);
            compare(BUSY, seed, 2);
        }
    }

    private static void turnsTogether() {
        for (long seed = 0; seed < 400; seed++) {
            compare(BUSY, seed * 1234567890123L, 1 + (int) (seed % 60));
            compare(Floors.EMPTY, seed, 60);
            compare(Floors.EMPTY + "i0000300003.i100030000.r1352p18p19p20p14", seed, 60);
        }
    }

    private static void longSeeds() {
        for (long seed : new long[] {Long.MIN_VALUE, Long.MAX_VALUE, -1L, 0L, 1L << 63 >>> 1}) {
            compare(BUSY, seed, 60);
        }
        // These were told by NaiveFloor, which is written in another way.
        BeltFloor f = Floors.of(BUSY);
        NaiveFloor n = new NaiveFloor();
        for (char c : BUSY.toCharArray()) {
            n.append(c);
        }
        n.load();
        for (long seed = 0; seed < 200; seed++) {
            Check.same("simulate " + seed, f.simulate(seed, 60), n.simulate(seed, 60));
        }
    }

    private static void nothingChanges() {
        BeltFloor f = Floors.of(BUSY);
        f.step(1);
        f.save(0);
        f.step(1);
        String before = Floors.picture(f);
        int first = f.simulate(99, 60);
        Check.same("the same again", f.simulate(99, 60), first);
        Check.same("the floor stays", Floors.picture(f).equals(before), true);
        Check.same("no action", f.undo(), 1);
        Check.same("the slot stays", f.restore(0), 1);
    }
}
