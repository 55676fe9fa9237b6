/** The boundaries that the document names in "What it is", "THE MEMORY" and promise 1, sentence by sentence. */
public final class MemoryBoundsTest {
    private static final int NONE = Due.NONE;

    private static void calls() {
        Due.sentence("An object is used for at most 512 calls after it has been made; what later calls answer is free.");
        // Ten calls make it the largest memory, so that it does not wear out; 500 drive.
        OdometerRing x = Due.ring(12, 99, 999);
        for (int call = 11; call <= 510; call++) {
            Due.due("drive(999) as call " + call, x.drive(999), 999);
        }
        Due.due("the distance as call 511", x.about(4), 499500);
        Due.due("the stored number as call 512", x.about(6), 499455);
    }

    private static void dueSlots(OdometerRing x, int n) {
        Due.due("about(0)", x.about(0), n);
        Due.due("the first slot of " + n, x.says(0), 0);
        Due.due("the last slot of " + n, x.says(n - 1), 0);
        Due.dueIndex("before the first slot of " + n, () -> x.says(-1));
        Due.dueIndex("behind the last slot of " + n, () -> x.says(n));
    }

    private static void slots() {
        Due.sentence("There are N slots, 3 to 12, at first 4, numbered from 0");
        dueSlots(new OdometerRing(), 4);
        for (int n = 3; n <= 12; n++) {
            dueSlots(Due.ring(n, 10, 100), n);
        }
        Due.dueState("2 slots", () -> Due.ring(2, 10, 100).about(0));
        Due.dueState("13 slots", () -> Due.ring(13, 10, 100).about(0));
        Due.sentence("Creates an odometer with 4 slots.");
        dueSlots(new OdometerRing(), 4);
    }

    private static void cellsOfASlot() {
        Due.sentence("a slot has the cells 0, 1 and 2.");
        for (int n : new int[] {3, 4, 12}) {
            OdometerRing x = Due.ring(n, 10, 100);
            for (int each = 0; each < n; each++) {
                int slot = each;
                Due.due("the first cell", x.cell(slot, 0, 0), 0);
                Due.due("the last cell", x.cell(slot, 2, 0), 0);
                Due.dueIndex("before the first cell", () -> x.cell(slot, -1, 0));
                Due.dueIndex("behind the last cell", () -> x.cell(slot, 3, 0));
            }
        }
    }

    private static void held() {
        Due.sentence("A cell holds a number (at first 0), or it is unreadable.");
        OdometerRing x = new OdometerRing();
        Due.due("at first", x.cell(1, 0, 0), 0);
        x.drive(10);
        Due.due("written", x.cell(1, 0, 0), 10);
        x.cut(1, 1);
        x.drive(10);
        Due.due("cut", x.cell(2, 0, 0), NONE);
        Due.due("beside it", x.cell(2, 1, 0), 0);
        x.start();
        Due.due("unreadable also with the power on", x.cell(2, 0, 0), NONE);
        x.drive(10);
        Due.due("readable again", x.cell(2, 0, 0), 20);
    }

    private static void wear() {
        Due.sentence("A cell has its wear, the number of times that it was written, at first 0");
        OdometerRing x = new OdometerRing();
        Due.due("at first", x.cell(1, 0, 1), 0);
        x.drive(9);
        Due.due("before the first write", x.cell(1, 0, 1), 0);
        x.drive(1);
        Due.due("behind it", x.cell(1, 0, 1), 1);
        x.drive(39);
        Due.due("before the second write", x.cell(1, 0, 1), 1);
        x.drive(1);
        Due.due("behind it", x.cell(1, 0, 1), 2);
    }

    /** Three slots with the step 1: slot 1 is written for the k-th time at 3 * k - 2. */
    private static void dueStuckFrom(int limit) {
        OdometerRing x = Due.ring(3, 1, limit);
        Due.due("about(2)", x.about(2), limit);
        Due.driveFar(x, 3 * (limit - 1) - 2);
        Due.due("wear before the limit " + limit, x.cell(1, 2, 1), limit - 1);
        Due.due("not stuck before the limit " + limit, x.cell(1, 2, 2), 0);
        x.drive(3);
        Due.due("wear at the limit " + limit, x.cell(1, 2, 1), limit);
        Due.due("stuck at the limit " + limit, x.cell(1, 2, 2), 1);
        Due.due("the last number at the limit " + limit, x.cell(1, 2, 0), 3 * limit - 2);
        x.drive(3);
        Due.due("no more wear than " + limit, x.cell(1, 2, 1), limit);
        Due.due("no other number behind the limit " + limit, x.cell(1, 2, 0), 3 * limit - 2);
    }

    private static void limit() {
        Due.sentence("the limit L, 10 to 999, at first 100, tells how often");
        for (int limit : new int[] {10, 11, 99, 100, 101, 998, 999}) {
            dueStuckFrom(limit);
        }
        Due.dueState("the limit 9", () -> Due.ring(4, 10, 9).about(2));
        Due.dueState("the limit 0", () -> Due.ring(4, 10, 0).about(2));
        OdometerRing x = new OdometerRing();
        Due.due("at first", x.about(2), 100);
        Due.driveFar(x, 3930);
        Due.due("99 times", x.cell(1, 0, 1), 99);
        Due.due("not stuck", x.cell(1, 0, 2), 0);
        x.drive(40);
        Due.due("100 times", x.cell(1, 0, 1), 100);
        Due.due("stuck", x.cell(1, 0, 2), 1);
    }

    private static void stuck() {
        Due.sentence("a cell with a wear of L or more is stuck.");
        OdometerRing x = Due.told("O0301010d027");
        Due.due("a wear of 9", x.cell(1, 0, 2), 0);
        x.cut(2, 0);
        x.drive(1);
        Due.due("a wear of 10", x.cell(1, 0, 2), 1);
        Due.due("a wear of 10, the last by the cut", x.cell(1, 1, 2), 1);
        Due.due("a wear of 9 beside them", x.cell(1, 2, 2), 0);
        x.start();
        x.replace(1);
        Due.due("a new cell", x.cell(1, 0, 2), 0);
    }

    private static void writes() {
        Due.sentence("When a number v is written into a cell, this is a write, and if it is not stuck, its wear increases"
            + " by 1 and it holds v then; if it is stuck, it stays as it is.");
        OdometerRing x = Due.told("O0301010d027");
        Due.due("27 storings", x.about(8), 81);
        Due.due("the number before the last write", x.cell(1, 0, 0), 25);
        x.drive(1);
        Due.due("writes", x.about(8), 84);
        Due.due("the last number that is taken", x.cell(1, 0, 0), 28);
        Due.due("the last wear", x.cell(1, 0, 1), 10);
        x.drive(2);
        x.replace(2);
        x.drive(1);
        Due.due("writes into stuck cells are writes", x.about(8), 96);
        Due.due("a stuck cell holds what it held", x.cell(1, 0, 0), 28);
        Due.due("with its wear", x.cell(1, 0, 1), 10);
        Due.due("a new cell holds the number", x.cell(2, 0, 0), 31);
        Due.due("with its wear", x.cell(2, 0, 1), 1);
    }

    /** The cells that the words name are stuck with another number; the limit is reached by a cut on the one cell. */
    private static void dueSays(String story, int slot, int a, int b, int c, int says) {
        OdometerRing x = Due.told(story);
        Due.due(story + ": cell 0", x.cell(slot, 0, 0), a);
        Due.due(story + ": cell 1", x.cell(slot, 1, 0), b);
        Due.due(story + ": cell 2", x.cell(slot, 2, 0), c);
        Due.due(story + ": says", x.says(slot), says);
    }

    private static void says() {
        Due.sentence("A slot says v if at least two of its cells are readable and hold v; otherwise it says nothing.");
        dueSays("O0410100d010", 1, 10, 10, 10, 10);
        dueSays("O0410100d010c030d010", 2, 20, 20, 0, 20);
        dueSays("O0410100d010c031d010", 2, 20, 20, NONE, 20);
        dueSays("O0410100d010c020d010", 2, 20, 0, 0, 0);
        dueSays("O0410100d010c011d010", 2, NONE, 0, 0, 0);
        dueSays("O0410100d010c021d010", 2, 20, NONE, 0, NONE);
        dueSays("O0301010d027c020d001sd001", 1, 28, 25, 28, 28);
        dueSays("O0301010d027c021d001sd001", 1, 28, NONE, 28, 28);
        dueSays("O0301010d027c010d001sd001", 1, 25, 28, 28, 28);
        dueSays("O0301010d027c011d001sd001", 1, NONE, 28, 28, 28);
        dueSays("O0410100d010c021d010sc011d010", 2, NONE, NONE, 0, NONE);
        dueSays("O0310100d010c031d010sd020c021d010", 2, 50, NONE, NONE, NONE);
        dueSays("O0310100d010c031d010sd020c021d010sc011d010", 2, NONE, NONE, NONE, NONE);
        dueSays("O0310100d010c031d010sd020c021d010sc011d010sd010", 2, 50, 50, 50, 50);
        dueSays("O0399100d999d190c022d099", 0, 1188, 1188, 1188, 1188);
        dueSays("O0399100d999d190c022d099", 1, 1287, 1200, 990, NONE);
    }

    public static void main(String[] args) {
        calls();
        slots();
        cellsOfASlot();
        held();
        wear();
        limit();
        stuck();
        writes();
        says();
        Due.finish();
    }
}
