/** The boundaries that the document names in the promises 21 to 25, "what would be", sentence by sentence. */
public final class WouldBeBoundsTest {
    private static final int NONE = Due.NONE;
    private static final int LEAST = Integer.MIN_VALUE;
    private static final int GREATEST = Integer.MAX_VALUE;

    /** All slots but the current one are stuck, but the memory is not yet found to be dead. */
    private static OdometerRing wornOut(int n) {
        OdometerRing x = Due.ring(n, 1, 10);
        x.drive(10 * n);
        x.setStep(99);
        return x;
    }

    // ---- afterCut

    private static void cutRange() {
        Due.sentence("Throws IllegalArgumentException if n or kind is out of range");
        for (OdometerRing x : new OdometerRing[] {new OdometerRing(), Made.off(), Made.dead()}) {
            for (int n : new int[] {0, -1, 37, LEAST, GREATEST}) {
                Due.dueArgument("afterCut(" + n + ", 0)", () -> x.afterCut(n, 0));
            }
            for (int kind : new int[] {-1, 3, LEAST, GREATEST}) {
                Due.dueArgument("afterCut(1, " + kind + ")", () -> x.afterCut(1, kind));
            }
        }
        OdometerRing x = new OdometerRing();
        x.drive(5);
        Due.due("afterCut(1, 0)", x.afterCut(1, 0), 0);
        Due.due("afterCut(1, 2)", x.afterCut(1, 2), 0);
        Due.due("afterCut(36, 0)", x.afterCut(36, 0), 5);
        Due.due("afterCut(36, 2)", x.afterCut(36, 2), 5);
    }

    private static void offOrDead() {
        Due.sentence("Throws IllegalStateException if the power is off, or the memory is dead");
        OdometerRing off = Made.off();
        Due.dueState("afterCut(1, 0) without power", () -> off.afterCut(1, 0));
        Due.dueState("afterCut(36, 2) without power", () -> off.afterCut(36, 2));
        Due.dueState("worstLoss() without power", off::worstLoss);
        off.start();
        Due.due("afterCut(1, 0) with power", off.afterCut(1, 0), 10);
        Due.due("worstLoss() with power", off.worstLoss(), 0);
        OdometerRing x = Due.told("O0301010d030");
        Due.due("afterCut(1, 0) of the last storing", x.afterCut(1, 0), 30);
        Due.due("worstLoss() of the last storing", x.worstLoss(), 0);
        x.drive(1);
        Due.dueState("afterCut(1, 0) of a dead one", () -> x.afterCut(1, 0));
        Due.dueState("worstLoss() of a dead one", x::worstLoss);
        x.undo();
        Due.due("afterCut(1, 0) before it", x.afterCut(1, 0), 30);
    }

    /** The writes up to the last one that is too soon tell one number, those behind it another, with each kind. */
    private static void dueAfterCuts(String when, OdometerRing x, int lastTooSoon, int before, int behind) {
        for (int n = 1; n <= 36; n++) {
            for (int kind = 0; kind <= 2; kind++) {
                String call = when + ": afterCut(" + n + ", " + kind + ")";
                Due.due(call, x.afterCut(n, kind), n <= lastTooSoon ? before : behind);
            }
        }
    }

    private static void nthWrite() {
        Due.sentence("Returns the distance that would be told when the power comes on again, if the distance was stored now"
            + " (whatever the step is), and a cut of this kind fell on the n-th write of that");
        dueAfterCuts("nothing driven", Due.told("O0499100"), 0, 0, 0);
        dueAfterCuts("far from the step", Due.told("O0499100d001"), 2, 0, 1);
        dueAfterCuts("one before the step", Due.told("O0499100d098"), 2, 0, 98);
        dueAfterCuts("stored", Due.told("O0499100d099"), 0, 99, 99);
        dueAfterCuts("stored before", Due.told("O0499100d115"), 2, 99, 115);
        OdometerRing hundreds = Due.told("O0499100d999d201");
        Due.due("1200, the kind 2, one cell", hundreds.afterCut(1, 2), 1188);
        Due.due("1200, the kind 2, two cells", hundreds.afterCut(2, 2), 1200);
        Due.due("1200, the kind 1, two cells", hundreds.afterCut(2, 1), 1188);
        Due.due("1200, the kind 0, two cells", hundreds.afterCut(2, 0), 1188);
        hundreds.drive(1);
        Due.due("1201, the kind 2, two cells", hundreds.afterCut(2, 2), 1188);
        Due.due("1201, the kind 2, three cells", hundreds.afterCut(3, 2), 1201);
    }

    private static void inPlaceOfTheCut() {
        Due.sentence("(in place of the one that is set)");
        for (int n : new int[] {1, 2, 3, 4, 36}) {
            for (int kind = 0; kind <= 2; kind++) {
                OdometerRing x = Due.told("O0410100d015");
                x.cut(n, kind);
                dueAfterCuts("a cut is set", x, 2, 10, 15);
                Due.due("it stays set", x.about(10), n);
                Due.due("with its kind", x.about(11), kind);
            }
        }
    }

    private static void fewerWrites() {
        Due.sentence("the distance as it is if storing it takes fewer writes (also if no slot says it then).");
        dueAfterCuts("three writes", Due.told("O0410100d015"), 2, 10, 15);
        for (int n = 3; n <= 12; n++) {
            OdometerRing worn = wornOut(n);
            worn.drive(7);
            dueAfterCuts("no slot says it, " + n + " slots", worn, 3 * (n - 1), 10 * n, 10 * n + 7);
            Due.due("the memory is not dead by this", worn.about(12), 0);
            OdometerRing last = wornOut(n);
            last.replace(n - 1);
            last.drive(7);
            dueAfterCuts("the last of " + n + " slots says it", last, 3 * (n - 1) - 1, 10 * n, 10 * n + 7);
        }
    }

    private static void worstLoss() {
        Due.sentence("Returns the distance less the smallest result of afterCut() for all n and kinds.");
        dueLoss("a new one", new OdometerRing(), 0);
        dueLoss("nothing stored yet", Due.told("O0410100d009"), 9);
        dueLoss("stored", Due.told("O0410100d010"), 0);
        dueLoss("one tenth more", Due.told("O0410100d011"), 1);
        dueLoss("the greatest step", Due.told("O0499100d197"), 98);
        dueLoss("told again", Due.told("O0410100d015c010d005sd004"), 4);
        dueLoss("a hundred", Due.told("O0499100d999d201"), 12);
        for (int n = 3; n <= 12; n++) {
            OdometerRing worn = wornOut(n);
            worn.drive(98);
            dueLoss("worn out", worn, 98);
        }
        OdometerRing late = new OdometerRing();
        late.setStep(99);
        late.drive(98);
        late.setStep(1);
        late.cut(1, 1);
        dueLoss("a smaller step, and a cut that is set", late, 98);
    }

    private static void dueLoss(String when, OdometerRing x, int loss) {
        int smallest = GREATEST;
        for (int n = 1; n <= 36; n++) {
            for (int kind = 0; kind <= 2; kind++) {
                smallest = Math.min(smallest, x.afterCut(n, kind));
            }
        }
        Due.due(when + ": by afterCut()", x.about(4) - smallest, loss);
        Due.due(when + ": worstLoss()", x.worstLoss(), loss);
    }

    // ---- lasts

    private static void lastsRange() {
        Due.sentence("Throws IllegalArgumentException if step is out of range");
        for (OdometerRing x : new OdometerRing[] {new OdometerRing(), Made.off(), Made.dead()}) {
            for (int step : new int[] {0, -1, 100, LEAST, GREATEST}) {
                Due.dueArgument("lasts(" + step + ")", () -> x.lasts(step));
            }
        }
        OdometerRing small = Due.ring(3, 50, 10);
        Due.due("lasts(1)", small.lasts(1), 31);
        Due.due("lasts(99)", small.lasts(99), 31 * 99);
        Due.sentence("Throws IllegalStateException if the power is off");
        OdometerRing off = Made.off();
        Due.dueState("lasts(1) without power", () -> off.lasts(1));
        Due.dueState("lasts(99) without power", () -> off.lasts(99));
        off.start();
        // 99 storings fit into the slot 1, 99 also into the slot 2, with two cells worn by the cut, and 100 into the others.
        Due.due("lasts(1) with power", off.lasts(1), 399);
    }

    private static void untilDead() {
        Due.sentence("Returns how many tenths of a kilometer can be driven from now on with this step, without power cuts, until the"
            + " memory is dead (0 if it is dead)");
        Due.due("dead", Made.dead().lasts(1), 0);
        Due.due("dead, with the greatest step", Made.dead().lasts(99), 0);
        OdometerRing x = Due.told("O0301010d030");
        Due.due("the next storing is in vain", x.lasts(1), 1);
        Due.due("in 99 tenths", x.lasts(99), 99);
        x.setStep(99);
        x.drive(40);
        Due.due("40 of them are driven", x.lasts(99), 59);
        Due.due("just now", x.lasts(41), 1);
        Due.due("already", x.lasts(40), 1);
        Due.due("long since", x.lasts(1), 1);
        Due.due("one later", x.lasts(42), 2);
        OdometerRing one = Due.told("O0301010d030r01");
        Due.due("one storing more", one.lasts(1), 2);
        OdometerRing cut = Due.told("O0301010d020c010");
        Due.due("without power cuts", cut.lasts(1), 11);
        Due.due("the cut stays set", cut.about(10), 1);
        // What lasts() tells is what drive() does.
        for (int step : new int[] {1, 2, 7, 33}) {
            OdometerRing y = Due.told("O0410012d033c021d040sd005");
            int lasts = y.lasts(step);
            y.setStep(step);
            Due.driveFar(y, lasts - 1);
            Due.due("not dead one tenth before", y.about(12), 0);
            y.drive(1);
            Due.due("dead then", y.about(12), 1);
        }
    }

    private static void notDeadSoSoon() {
        Due.sentence("NONE if it is not dead after 9999.");
        Due.due("101 storings of 99 are 9999", Due.ring(4, 10, 25).lasts(99), 9999);
        Due.due("125 storings of 80 are 10000", Due.ring(4, 10, 31).lasts(80), NONE);
        OdometerRing x = Due.ring(12, 1, 834);
        x.drive(9);
        Due.due("10000 storings", x.lasts(1), NONE);
        x.drive(1);
        Due.due("9999 storings", x.lasts(1), 9999);
        x.drive(1);
        Due.due("9998 storings", x.lasts(1), 9998);
        Due.due("the largest memory", Due.ring(12, 1, 999).lasts(1), NONE);
        Due.due("the largest memory, the greatest step", Due.ring(12, 1, 999).lasts(99), NONE);
    }

    // ---- dueIn, dueFirst

    private static void dueInRange() {
        Due.sentence("Throws IllegalArgumentException if an argument is out of range");
        for (OdometerRing x : new OdometerRing[] {new OdometerRing(), Made.off(), Made.dead()}) {
            for (int wrong : new int[] {-1, 10, LEAST, GREATEST}) {
                Due.dueArgument("dueIn(" + wrong + ", 5, 1)", () -> x.dueIn(wrong, 5, 1));
                Due.dueArgument("dueIn(3, " + wrong + ", 1)", () -> x.dueIn(3, wrong, 1));
            }
            for (int interval : new int[] {0, -1, 10000, LEAST, GREATEST}) {
                Due.dueArgument("dueIn(3, 5, " + interval + ")", () -> x.dueIn(3, 5, interval));
            }
        }
        Due.due("the interval 1", Made.dead().dueIn(3, 5, 1), -38);
        Due.due("the interval 9999", Made.dead().dueIn(3, 5, 9999), 9960);
        Due.sentence("Throws IllegalStateException if the power is off");
        OdometerRing off = Made.off();
        Due.dueState("without power", () -> off.dueIn(3, 5, 1));
        Due.dueState("without power, and not noted", () -> off.dueIn(0, 0, 1));
        off.start();
        Due.due("with power", off.dueIn(3, 5, 1), 6);
    }

    private static void dueNow() {
        Due.sentence("Returns the noted distance + interval - the distance (0 or less: it is due); NONE if it is not noted.");
        OdometerRing x = Due.told("O0410100d020m35d030");
        Due.due("in one", x.dueIn(3, 5, 31), 1);
        Due.due("now", x.dueIn(3, 5, 30), 0);
        Due.due("one ago", x.dueIn(3, 5, 29), -1);
        Due.due("another part", x.dueIn(3, 4, 30), NONE);
        Due.due("another kind", x.dueIn(5, 5, 30), NONE);
        x.forget(3, 5);
        Due.due("forgotten", x.dueIn(3, 5, 30), NONE);
    }

    private static void dueFirst() {
        Due.sentence("Returns 10 * kind + part of the service with the smallest noted distance, among several the one that was done"
            + " first; NONE if none is noted.");
        OdometerRing x = new OdometerRing();
        Due.due("none is noted", x.dueFirst(), NONE);
        x.drive(15);
        x.service(9, 9);
        Due.due("one is noted", x.dueFirst(), 99);
        x.service(0, 0);
        Due.due("two at the same distance", x.dueFirst(), 99);
        x.service(9, 9);
        Due.due("done again at the same distance", x.dueFirst(), 0);
        x.drive(1);
        x.service(0, 0);
        Due.due("done again one later", x.dueFirst(), 99);
        x.cut(1, 0);
        x.drive(99);
        Due.due("also while the power is off", x.dueFirst(), 99);
        x.start();
        x.drive(5);
        x.service(4, 2);
        Due.due("done last, at the same distance", x.dueFirst(), 99);
        x.forget(4, 2);
        x.cut(1, 0);
        x.drive(99);
        x.start();
        x.drive(4);
        x.service(4, 2);
        Due.due("done last, at one less", x.dueFirst(), 42);
        x.forget(4, 2);
        x.forget(9, 9);
        Due.due("the last one", x.dueFirst(), 0);
        x.forget(0, 0);
        Due.due("none is noted any more", x.dueFirst(), NONE);
    }

    public static void main(String[] args) {
        cutRange();
        offOrDead();
        nthWrite();
        inPlaceOfTheCut();
        fewerWrites();
        worstLoss();
        lastsRange();
        untilDead();
        notDeadSoSoon();
        dueInRange();
        dueNow();
        dueFirst();
        Due.finish();
    }
}
