/** The boundaries that the document names in "STORING", "DRIVING" and "POWER CUTS", sentence by sentence. */
public final class DrivingBoundsTest {
    private static final int NONE = Due.NONE;

    private static void dueTold(String when, OdometerRing x, int distance, int stored, int current) {
        Due.due(when + ": the distance", x.about(4), distance);
        Due.due(when + ": the stored number", x.about(6), stored);
        Due.due(when + ": the current slot", x.about(7), current);
    }

    // ---- storing

    private static void whileThePowerIsOn() {
        Due.sentence("While the power is on, there is a distance, in tenths of a kilometer, a stored number, and a current"
            + " slot; at first these are 0, 0 and the slot 0.");
        dueTold("at first", new OdometerRing(), 0, 0, 0);
        dueTold("at first after load", Due.ring(12, 1, 10), 0, 0, 0);
        OdometerRing x = new OdometerRing();
        x.drive(15);
        x.cut(1, 0);
        dueTold("before the cut", x, 15, 10, 1);
        x.drive(5);
        dueTold("while the power is off", x, NONE, NONE, NONE);
        x.start();
        dueTold("on again", x, 10, 10, 1);
    }

    private static void orderOfCells() {
        Due.sentence("it is written into the cells 0, 1 and 2, in this order");
        for (int n = 1; n <= 3; n++) {
            OdometerRing x = new OdometerRing();
            x.cut(n, 1);
            x.drive(10);
            for (int i = 0; i < 3; i++) {
                int held = i < n - 1 ? 10 : i == n - 1 ? NONE : 0;
                Due.due("cell " + i + " when the cut fell on the write " + n, x.cell(1, i, 0), held);
                Due.due("wear of cell " + i + " then", x.cell(1, i, 1), i <= n - 1 ? 1 : 0);
            }
        }
    }

    private static void behindTheLastSlot() {
        Due.sentence("of the slot behind the current one (behind the last slot comes the slot 0).");
        for (int n = 3; n <= 12; n++) {
            OdometerRing x = Due.ring(n, 1, 100);
            x.drive(n - 2);
            Due.due("the last slot but one of " + n, x.about(7), n - 2);
            x.drive(1);
            Due.due("the last slot of " + n, x.about(7), n - 1);
            Due.due("the slot 0 is not yet written", x.cell(0, 0, 1), 0);
            x.drive(1);
            Due.due("behind the last slot of " + n, x.about(7), 0);
            Due.due("the slot 0 says", x.says(0), n);
            Due.due("the slot 1 says", x.says(1), 1);
            x.drive(1);
            Due.due("the second turn", x.about(7), 1);
            Due.due("the slot 1 says then", x.says(1), n + 1);
        }
    }

    private static void saidThen() {
        Due.sentence("If this slot says the distance then, it becomes the current slot, and the distance becomes the stored"
            + " number.");
        OdometerRing two = Due.told("O0301010d027c011d001s");
        two.setStep(2);
        two.drive(1);
        dueTold("before it is stored", two, 28, 27, 0);
        two.drive(1);
        dueTold("two cells took it", two, 29, 29, 1);
        OdometerRing one = Due.told("O0301010d027c021d001s");
        one.setStep(2);
        one.drive(2);
        Due.due("one cell took it", one.cell(1, 2, 0), 29);
        Due.due("the slot says nothing", one.says(1), NONE);
        dueTold("the slot behind it took it", one, 29, 29, 2);
        OdometerRing held = Due.told("O0301010d027c021d001sd001");
        Due.due("one cell took it, and a stuck one held it already", held.says(1), 28);
        dueTold("that is enough", held, 28, 28, 1);
    }

    private static void allButTheCurrentSlot() {
        Due.sentence("Otherwise the same is done with the slot behind that one, and so on with all slots but the current one.");
        for (int n = 3; n <= 12; n++) {
            OdometerRing x = Due.ring(n, 1, 10);
            x.drive(10 * n);
            dueTold("all are stuck, " + n + " slots", x, 10 * n, 10 * n, 0);
            x.replace(n - 1);
            x.drive(1);
            dueTold("the last that is tried", x, 10 * n + 1, 10 * n + 1, n - 1);
            Due.due("writes into all but the current one", x.about(8), 30 * n + 3 * (n - 1));
            x.drive(1);
            Due.due("none is left", x.about(12), 1);
            Due.due("the current slot is not tried", x.cell(n - 1, 0, 1), 1);
            dueTold("it stays", x, 10 * n + 2, 10 * n + 1, n - 1);
            Due.due("twice all but the current one", x.about(8), 30 * n + 6 * (n - 1));
            x.undo();
            x.replace(n - 2);
            x.drive(1);
            dueTold("the last that is tried behind the slot 0", x, 10 * n + 2, 10 * n + 2, n - 2);
            Due.due("twice all but the current one", x.about(8), 30 * n + 6 * (n - 1));
        }
    }

    private static void deadMemory() {
        Due.sentence("If none of them says it, the memory is dead, and nothing is stored any more until the power comes on again.");
        OdometerRing x = Due.told("O0301010d030");
        Due.due("all could still be stored", x.about(12), 0);
        x.drive(1);
        Due.due("dead", x.about(12), 1);
        Due.due("writes in vain", x.about(8), 96);
        x.drive(999);
        x.replace(1);
        x.setStep(2);
        x.drive(9);
        Due.due("no more writes", x.about(8), 96);
        Due.due("not even into new cells", x.cell(1, 0, 1), 0);
        dueTold("dead", x, 1039, 30, 0);
        Due.due("still dead", x.about(12), 1);
        OdometerRing y = Due.told("O0301010d030r02d001");
        Due.due("the last of them says it", y.about(12), 0);
        dueTold("not dead", y, 31, 31, 2);
    }

    // ---- driving

    private static void stepReached() {
        Due.sentence("then, if the distance is the stored number + the step or more, and the memory is not dead, the distance"
            + " is stored.");
        for (int step : new int[] {1, 2, 10, 98, 99}) {
            OdometerRing x = new OdometerRing();
            x.setStep(step);
            for (int turn = 1; turn <= 2; turn++) {
                Due.driveFar(x, step - 1);
                dueTold("one less than the step " + step, x, turn * step - 1, (turn - 1) * step, turn - 1);
                x.drive(1);
                dueTold("the step " + step, x, turn * step, turn * step, turn);
            }
            Due.due("writes with the step " + step, x.about(8), 6);
        }
        OdometerRing y = new OdometerRing();
        y.setStep(99);
        y.drive(40);
        y.setStep(42);
        y.drive(1);
        Due.due("still one less than the new step", y.about(6), 0);
        y.setStep(30);
        Due.due("more than the step, but not driven", y.about(6), 0);
        y.drive(1);
        Due.due("more than the step", y.about(6), 42);
        Due.due("stored once", y.about(8), 3);
    }

    private static void step() {
        Due.sentence("The step is from 1 to 99, at first 10.");
        OdometerRing x = new OdometerRing();
        x.drive(9);
        Due.due("9 at first", x.about(6), 0);
        x.drive(1);
        Due.due("10 at first", x.about(6), 10);
        Due.dueArgument("setStep(0)", () -> x.setStep(0));
        Due.dueArgument("setStep(100)", () -> x.setStep(100));
        Due.due("setStep(99)", x.setStep(99), 10);
        Due.due("setStep(1)", x.setStep(1), 99);
        Due.dueState("a story with the step 0", () -> Due.ring(4, 0, 100).about(1));
        Due.due("a story with the step 1", Due.ring(4, 1, 100).about(1), 1);
        Due.due("a story with the step 99", Due.ring(4, 99, 100).about(1), 99);
    }

    // ---- power cuts

    private static void nextWrites() {
        Due.sentence("A cut can be set for one of the next writes, with a kind from 0 to 2.");
        for (int n = 1; n <= 36; n++) {
            for (int kind = 0; kind <= 2; kind++) {
                OdometerRing x = new OdometerRing();
                x.setStep(1);
                x.cut(n, kind);
                int before = (n - 1) / 3;
                Due.driveFar(x, before);
                String when = "cut(" + n + ", " + kind + ")";
                Due.due(when + " has not yet fallen", x.about(3), 1);
                Due.due(when + " is set for", x.about(10), n - 3 * before);
                x.drive(1);
                Due.due(when + " has fallen", x.about(3), 0);
                Due.due(when + ": writes", x.about(8), n);
                Due.due(when + ": the slot", x.lastCut(0), (before + 1) % 4);
                Due.due(when + ": the cell", x.lastCut(1), (n - 1) % 3);
                Due.due(when + ": the kind", x.lastCut(2), kind);
            }
        }
        OdometerRing y = new OdometerRing();
        Due.dueArgument("no write", () -> y.cut(0, 0));
        Due.dueArgument("the 37th write", () -> y.cut(37, 0));
        Due.dueArgument("the kind -1", () -> y.cut(1, -1));
        Due.dueArgument("the kind 3", () -> y.cut(1, 3));
    }

    /** Twelve slots with the step 1: v is written into the slot v % 12, which held v - 12 before. */
    private static void dueLeft(int v, int kind, int left) {
        OdometerRing x = Due.ring(12, 1, 999);
        Due.driveFar(x, v - 1);
        x.cut(1, kind);
        x.drive(1);
        Due.due(v + " with the kind " + kind, x.cell(v % 12, 0, 0), left);
        Due.due("its wear", x.cell(v % 12, 0, 1), (v - 1) / 12 + 1);
    }

    private static void heldBefore() {
        Due.sentence("what it held before (also unreadable) with the kind 0");
        dueLeft(1, 0, 0);
        dueLeft(12, 0, 0);
        dueLeft(13, 0, 1);
        dueLeft(1234, 0, 1222);
        OdometerRing x = Due.told("O0410100d010c011d010s");
        Due.due("unreadable before", x.cell(2, 0, 0), NONE);
        x.cut(1, 0);
        x.drive(10);
        Due.due("unreadable as before", x.cell(2, 0, 0), NONE);
        Due.due("with its wear", x.cell(2, 0, 1), 2);
    }

    private static void unreadable() {
        Due.sentence("nothing, it is unreadable then, with the kind 1");
        dueLeft(1, 1, NONE);
        dueLeft(100, 1, NONE);
        dueLeft(1234, 1, NONE);
        OdometerRing x = Due.told("O0410100d010c011d010s");
        x.cut(1, 1);
        x.drive(10);
        Due.due("unreadable again", x.cell(2, 0, 0), NONE);
    }

    private static void halfWritten() {
        Due.sentence("with the kind 2 the number v with 00 in place of its last two digits: 1234 gives 1200, 77 gives 0.");
        int[] numbers = {1234, 77, 1, 9, 10, 12, 99, 100, 101, 199, 200, 999, 1000, 1099, 1100, 9999, 10000, 10099};
        int[] left = {1200, 0, 0, 0, 0, 0, 0, 100, 100, 100, 200, 900, 1000, 1000, 1100, 9900, 10000, 10000};
        for (int k = 0; k < numbers.length; k++) {
            dueLeft(numbers[k], 2, left[k]);
        }
    }

    private static void wearOfTheCut() {
        Due.sentence("On this write, a cell that is not stuck gets its wear, but holds something else");
        int[] left = {25, NONE, 0};
        for (int kind = 0; kind <= 2; kind++) {
            OdometerRing x = Due.told("O0301010d027");
            x.cut(1, kind);
            x.drive(1);
            Due.due("not stuck, the kind " + kind, x.cell(1, 0, 0), left[kind]);
            Due.due("the last wear", x.cell(1, 0, 1), 10);
            Due.due("stuck then", x.cell(1, 0, 2), 1);
        }
        Due.sentence("A stuck cell stays as it is.");
        for (int kind = 0; kind <= 2; kind++) {
            OdometerRing x = Due.told("O0301010d030");
            x.cut(1, kind);
            x.drive(1);
            Due.due("stuck, the kind " + kind, x.cell(1, 0, 0), 28);
            Due.due("its wear", x.cell(1, 0, 1), 10);
            Due.due("the power is off all the same", x.about(3), 0);
            Due.due("one write", x.about(8), 91);
        }
    }

    private static void atOnce() {
        Due.sentence("Then the power is off, driving ends at once, and the cut is not set any more; the distance, the stored"
            + " number and the current slot are lost.");
        OdometerRing x = new OdometerRing();
        x.cut(2, 1);
        Due.due("one tenth before", x.drive(9), 9);
        Due.due("the power is on", x.about(3), 1);
        Due.due("the cut is set", x.about(10), 2);
        Due.due("of the next ones", x.drive(500), 1);
        Due.due("the power is off", x.about(3), 0);
        Due.due("travelled", x.about(5), 10);
        Due.due("the cut is not set any more", x.about(10), 0);
        Due.due("nor its kind", x.about(11), NONE);
        dueTold("lost", x, NONE, NONE, NONE);
        Due.due("the write of the cut is the last one", x.about(8), 2);
        Due.due("the cell behind it is not written", x.cell(1, 2, 1), 0);
        x.start();
        Due.due("no second cut", x.drive(500), 500);
        Due.due("one cut", x.about(9), 1);
    }

    private static void notKnown() {
        Due.sentence("What was travelled is not lost, but it is not known to the odometer.");
        OdometerRing x = Due.told("O0410100d015c010d099");
        Due.due("while the power is off", x.about(5), 20);
        Due.due("told", x.start(), 10);
        Due.due("travelled", x.about(5), 20);
        x.drive(1);
        Due.due("told then", x.about(4), 11);
        Due.due("travelled then", x.about(5), 21);
    }

    private static void greatestNumber() {
        Due.sentence("When the power comes on, the slot that says the greatest number becomes the current slot, among several"
            + " the one with the smallest number, and what it says becomes the distance and the stored number");
        for (int n : new int[] {3, 4, 12}) {
            for (int k = 0; k <= 2 * n; k++) {
                OdometerRing x = Due.ring(n, 10, 100);
                Due.driveFar(x, 10 * k);
                x.cut(1, 0);
                x.drive(10);
                Due.due("start() with " + n + " slots", x.start(), 10 * k);
                dueTold("the greatest number", x, 10 * k, 10 * k, k % n);
            }
        }
        OdometerRing one = Due.told("O0410100d010c020d010s");
        Due.due("a cell that holds a greater number", one.cell(2, 0, 0), 20);
        dueTold("one cell is not believed", one, 10, 10, 1);
        OdometerRing two = Due.told("O0410100d010c030d010s");
        dueTold("two cells are believed", two, 20, 20, 2);
        OdometerRing all = Due.told("O0410100c011d010s");
        dueTold("all say 0", all, 0, 0, 0);
        dueTwoGreatest(4, 2);
        dueTwoGreatest(3, 0);
    }

    /** The slot 2 says 100; two cuts of the kind 2 at 112 let the slot behind it say 100 as well. */
    private static void dueTwoGreatest(int n, int current) {
        OdometerRing x = Due.ring(n, 50, 100);
        x.drive(100);
        x.setStep(12);
        x.cut(2, 2);
        x.drive(12);
        x.start();
        dueTold("one says 100", x, 100, 100, 2);
        x.cut(1, 2);
        x.drive(12);
        Due.due("the slot 2 says", x.says(2), 100);
        Due.due("the slot behind it says", x.says(3 % n), 100);
        x.start();
        dueTold("two say 100", x, 100, 100, current);
    }

    private static void notDeadThen() {
        Due.sentence("The memory is not dead then, until it is found to be so again.");
        OdometerRing x = Due.told("O0301010d030c061d001");
        Due.due("the cut fell on the last write in vain", x.about(3), 0);
        Due.due("not dead while the power is off", x.about(12), 0);
        x.start();
        dueTold("told", x, 30, 30, 0);
        Due.due("not dead", x.about(12), 0);
        x.drive(1);
        Due.due("found to be so", x.about(12), 1);
    }

    public static void main(String[] args) {
        whileThePowerIsOn();
        orderOfCells();
        behindTheLastSlot();
        saidThen();
        allButTheCurrentSlot();
        deadMemory();
        stepReached();
        step();
        nextWrites();
        heldBefore();
        unreadable();
        halfWritten();
        wearOfTheCut();
        atOnce();
        notKnown();
        greatestNumber();
        notDeadThen();
        Due.finish();
    }
}
