/** Rounds of a simulation, chosen by their number r. */
final class Rounds {
    private Rounds() {
    }

    /** The seed from which the first round computes this r. */
    static long seedOf(int r) {
        // The inverse of an odd factor, found by Newton's way: each turn doubles the right bits.
        long factor = 6364136223846793005L;
        long inverse = factor;
        for (int turn = 0; turn < 6; turn++) {
            inverse *= 2 - factor * inverse;
        }
        return (((long) r << 33) - 1442695040888963407L) * inverse;
    }

    /** The smallest r with this r % 4, by which a cut would fall on this write, and which drives so far. */
    static int r(int onFourths, int write, int kind, int tenths) {
        for (int r = 0; r < 4000000; r++) {
            if (r % 4 == onFourths && r / 4 % 9 == write - 1 && r / 64 % 3 == kind && r / 256 % 50 == tenths - 1) {
                return r;
            }
        }
        return -1;
    }

    /** The smallest r that sets this cut. */
    static int withCut(int write, int kind, int tenths) {
        return r(0, write, kind, tenths);
    }

    /** The smallest r that sets none. */
    static int withoutCut(int tenths) {
        return r(1, 1, 0, tenths);
    }

    static void dueRound(String when, OdometerRing x, int r, int want) {
        Due.due(when + ": simulate of a round with r = " + r, x.simulate(seedOf(r), 1), want);
    }
}
