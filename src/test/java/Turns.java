import java.util.Random;
import java.util.function.LongPredicate;

/** The turns of a simulation: which one a long makes, made by the calls that the document names, and seeds for wanted ones. */
final class Turns {
    private static final long TIMES = 6364136223846793005L;
    private static final long PLUS = 1442695040888963407L;

    private Turns() {
    }

    static long following(long x) {
        return x * TIMES + PLUS;
    }

    /** Makes the turn of an x by public calls; returns the checkpoints that are passed. */
    static int make(BeltFloor f, long x) {
        int r = (int) (x >>> 33);
        int q = r / 16;
        try {
            switch (r % 16) {
                case 0, 1, 2 -> f.setKind(q % 36, q / 64 % 7);
                case 3, 4 -> f.addCrate(q % 36);
                case 5 -> f.addCheckpoint(q % 36);
                case 6 -> f.putRobot(q % 2, q / 2 % 36, q / 128 % 4);
                case 7, 8, 9, 10 -> f.write(q % 2, q / 2 % 6);
                case 11 -> {
                    if (q / 2 % 4 == 0) {
                        f.wipe(q % 2);
                    }
                }
                default -> {
                    return f.step(1 + q % 4);
                }
            }
        } catch (IndexOutOfBoundsException | IllegalArgumentException | IllegalStateException e) {
            return 0;
        }
        return 0;
    }

    /** What simulate is due to answer: the same turns, made on an object of their own. */
    static int due(Whole.Script script, long seed, int m) {
        BeltFloor f = Whole.after(script);
        long x = seed;
        int passed = 0;
        for (int turn = 0; turn < m; turn++) {
            x = following(x);
            passed += make(f, x);
        }
        return 10000 * passed + 100 * f.cellOf(0) + f.cellOf(1);
    }

    /** The seed from which x follows: the number that times TIMES is 1, with overflow, is found by Newton's rule. */
    static long seedBefore(long x) {
        long inverse = TIMES;
        for (int i = 0; i < 6; i++) {
            inverse *= 2 - TIMES * inverse;
        }
        return (x - PLUS) * inverse;
    }

    /** A seed whose first turn is made by the r 16 * q + remainder, and whose second one's r is as wanted. */
    static long seed(int remainder, int q, LongPredicate second) {
        Random dice = new Random(16L * q + remainder);
        long r = 16L * q + remainder;
        for (int tries = 0; tries < 1000000; tries++) {
            long x = r << 33 | dice.nextLong() >>> 31;
            if (second.test(following(x) >>> 33)) {
                return seedBefore(x);
            }
        }
        throw new IllegalStateException("no seed found");
    }

    /** Whether an r makes n steps. */
    static LongPredicate steps(int n) {
        return r -> r % 16 >= 12 && r / 16 % 4 == n - 1;
    }
}
