/** Promises 21 to 25: afterCut, worstLoss, lasts, dueIn, dueFirst. */
public final class WouldBeTest {
    private static final int NONE = Due.NONE;

    private static OdometerRing off() {
        OdometerRing x = new OdometerRing();
        x.service(1, 1);
        x.cut(1, 0);
        x.drive(99);
        return x;
    }

    private static OdometerRing dead() {
        return Due.told("O0301010m11d031");
    }

    private static void afterCut() {
        OdometerRing x = new OdometerRing();
        for (int n : new int[] {0, -1, 37, Integer.MIN_VALUE, Integer.MAX_VALUE}) {
            Due.dueArgument("afterCut(" + n + ", 0)", () -> x.afterCut(n, 0));
            Due.dueArgument("without power afterCut(" + n + ", 0)", () -> off().afterCut(n, 0));
        }
        for (int kind : new int[] {-1, 3, Integer.MIN_VALUE, Integer.MAX_VALUE}) {
            Due.dueArgument("afterCut(1, " + kind + ")", () -> x.afterCut(1, kind));
            Due.dueArgument("dead afterCut(1, " + kind + ")", () -> dead().afterCut(1, kind));
        }
        Due.dueState("afterCut(1, 0) without power", () -> off().afterCut(1, 0));
        Due.dueState("afterCut(1, 0) of a dead one", () -> dead().afterCut(1, 0));
        x.drive(15);
        x.cut(1, 2);
        for (int kind = 0; kind < 3; kind++) {
            Due.due("on the first", x.afterCut(1, kind), 10);
            Due.due("on the second", x.afterCut(2, kind), 10);
            Due.due("on the third", x.afterCut(3, kind), 15);
            Due.due("behind the third", x.afterCut(4, kind), 15);
            Due.due("far behind it", x.afterCut(36, kind), 15);
        }
        Due.due("the power is on", x.about(3), 1);
        Due.due("the cut is set", x.about(10), 1);
        Due.due("nothing was written", x.about(8), 3);
        Due.due("nothing was cut", x.about(9), 0);
        Due.due("nothing is remembered", x.undo(), 1);

        OdometerRing y = new OdometerRing();
        y.setStep(99);
        y.drive(999);
        y.drive(201);
        Due.due("1200 half written is 1200", y.afterCut(2, 2), 1200);
        Due.due("one cell is not enough", y.afterCut(1, 2), 1188);
        Due.due("unreadable", y.afterCut(2, 1), 1188);

        // Slots 1 and 2 are worn out: storing takes six writes, and none of them helps.
        OdometerRing worn = Due.told("O0399010d999d999d972");
        Due.due("worn", worn.about(4), 2970);
        Due.due("stored", worn.about(6), 2970);
        worn.drive(50);
        for (int n = 1; n <= 36; n++) {
            Due.due("worn: afterCut(" + n + ", 1)", worn.afterCut(n, 1), n <= 6 ? 2970 : 3020);
        }
        Due.due("not dead", worn.about(12), 0);
    }

    private static void worstLoss() {
        Due.dueState("worstLoss() without power", () -> off().worstLoss());
        Due.dueState("worstLoss() of a dead one", () -> dead().worstLoss());
        OdometerRing x = new OdometerRing();
        Due.due("nothing to lose", x.worstLoss(), 0);
        x.drive(9);
        Due.due("all of it", x.worstLoss(), 9);
        x.drive(1);
        Due.due("stored", x.worstLoss(), 0);
        x.drive(7);
        x.cut(30, 0);
        Due.due("what is not stored", x.worstLoss(), 7);
        Due.due("nothing changed", x.about(10) + x.about(8), 33);
        Due.due("nothing is remembered", x.undo(), 3);

        // All 11 other slots are stuck, the last of them half: the loss is told from the writes far behind.
        OdometerRing worn = Due.told("O1201010d120");
        worn.setStep(99);
        worn.drive(42);
        Due.due("worn out", worn.worstLoss(), 42);
        Due.due("at the last write", worn.afterCut(33, 2), 120);
        Due.due("behind it", worn.afterCut(34, 2), 162);
    }

    private static void lasts() {
        OdometerRing x = new OdometerRing();
        for (int step : new int[] {0, -1, 100, Integer.MIN_VALUE, Integer.MAX_VALUE}) {
            Due.dueArgument("lasts(" + step + ")", () -> x.lasts(step));
            Due.dueArgument("without power lasts(" + step + ")", () -> off().lasts(step));
        }
        Due.dueState("lasts(1) without power", () -> off().lasts(1));
        Due.due("400 storings, and one in vain", x.lasts(1), 401);
        Due.due("lasts(24)", x.lasts(24), 9624);
        Due.due("lasts(25) is 10025", x.lasts(25), NONE);
        Due.due("lasts(99)", x.lasts(99), NONE);
        Due.due("the step stays", x.about(1), 10);
        x.drive(5);
        Due.due("from now on", x.lasts(10), 4005);
        Due.due("the first at once", x.lasts(1), 401);
        Due.due("the first in 15", x.lasts(20), 8015);
        x.cut(1, 1);
        Due.due("without power cuts", x.lasts(10), 4005);
        Due.due("the cut stays set", x.about(10), 1);
        Due.due("nothing is remembered", x.undo(), 1);
        Due.due("9999", Due.told("O0401025").lasts(99), 9999);
        Due.due("10000", Due.told("O0401031").lasts(80), NONE);
        Due.due("the largest memory", Due.told("O1201999").lasts(1), NONE);
        Due.due("the smallest", Due.told("O0350010").lasts(1), 31);
        Due.due("a dead one", dead().lasts(1), 0);
        Due.due("a worn one", Due.told("O0301010d030").lasts(7), 7);
        OdometerRing renewed = Due.told("O0301010d030r01");
        Due.due("one new slot", renewed.lasts(1), 2);
        Due.due("is used once", renewed.lasts(50), 100);
    }

    private static void dueIn() {
        OdometerRing x = new OdometerRing();
        for (int wrong : new int[] {-1, 10, Integer.MIN_VALUE, Integer.MAX_VALUE}) {
            Due.dueArgument("dueIn(" + wrong + ", 0, 1)", () -> x.dueIn(wrong, 0, 1));
            Due.dueArgument("dueIn(0, " + wrong + ", 1)", () -> x.dueIn(0, wrong, 1));
            Due.dueArgument("without power dueIn(0, " + wrong + ", 1)", () -> off().dueIn(0, wrong, 1));
        }
        for (int interval : new int[] {0, -1, 10000, Integer.MIN_VALUE, Integer.MAX_VALUE}) {
            Due.dueArgument("dueIn(0, 0, " + interval + ")", () -> x.dueIn(0, 0, interval));
            Due.dueArgument("without power dueIn(0, 0, " + interval + ")", () -> off().dueIn(0, 0, interval));
        }
        Due.dueState("dueIn(1, 1, 1) without power", () -> off().dueIn(1, 1, 1));
        Due.dueState("without power, and not noted", () -> off().dueIn(9, 9, 1));
        Due.due("a dead one", dead().dueIn(1, 1, 40), 9);
        Due.due("not noted", x.dueIn(0, 0, 5), NONE);
        x.drive(12);
        x.service(0, 0);
        x.drive(30);
        x.service(9, 9);
        Due.due("the other is not noted", x.dueIn(0, 9, 5), NONE);
        Due.due("not due yet", x.dueIn(0, 0, 9999), 9969);
        Due.due("due now", x.dueIn(0, 0, 30), 0);
        Due.due("due long since", x.dueIn(0, 0, 1), -29);
        Due.due("in one", x.dueIn(9, 9, 1), 1);
        x.cut(1, 0);
        x.drive(99);
        x.start();
        Due.due("told less than noted", x.dueIn(9, 9, 5), 7);
    }

    private static void dueFirst() {
        OdometerRing x = new OdometerRing();
        Due.due("none is noted", x.dueFirst(), NONE);
        x.drive(5);
        x.service(9, 8);
        Due.due("the only one", x.dueFirst(), 98);
        x.service(0, 3);
        x.service(1, 0);
        Due.due("done first among equals", x.dueFirst(), 98);
        x.drive(1);
        x.service(9, 8);
        Due.due("done again, it is later", x.dueFirst(), 3);
        x.cut(1, 0);
        x.drive(9);
        Due.due("also while the power is off", x.dueFirst(), 3);
        x.start();
        x.drive(4);
        x.service(7, 7);
        Due.due("the last done, but noted smaller", x.dueFirst(), 77);
        x.forget(7, 7);
        x.forget(0, 3);
        Due.due("the next one", x.dueFirst(), 10);
        OdometerRing y = new OdometerRing();
        y.service(0, 0);
        Due.due("kind 0, part 0", y.dueFirst(), 0);
    }

    public static void main(String[] args) {
        afterCut();
        worstLoss();
        lasts();
        dueIn();
        dueFirst();
        Due.finish();
    }
}
