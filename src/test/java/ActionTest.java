/** Promises 13 to 20: drive, cut, start, service, forget, setStep, replace, undo. */
public final class ActionTest {
    private static final int NONE = Due.NONE;

    private static OdometerRing off() {
        OdometerRing x = new OdometerRing();
        x.drive(15);
        x.service(1, 1);
        x.cut(1, 0);
        x.drive(5);
        Due.due("the power is off", x.about(3), 0);
        return x;
    }

    private static void drive() {
        OdometerRing x = new OdometerRing();
        for (int tenths : new int[] {0, -1, 1000, Integer.MIN_VALUE, Integer.MAX_VALUE}) {
            Due.dueArgument("drive(" + tenths + ")", () -> x.drive(tenths));
            OdometerRing off = off();
            Due.dueArgument("drive(" + tenths + ") without power", () -> off.drive(tenths));
        }
        Due.dueState("drive(1) without power", () -> off().drive(1));
        Due.due("nothing was driven", x.about(5), 0);
        Due.due("drive(9)", x.drive(9), 9);
        Due.due("nothing stored yet", x.about(8), 0);
        Due.due("drive(1)", x.drive(1), 1);
        Due.due("stored", x.about(6), 10);
        Due.due("behind the current slot", x.about(7), 1);
        Due.due("drive(999)", x.drive(999), 999);
        Due.due("the distance", x.about(4), 1009);
        Due.due("stored each 10", x.about(6), 1000);
        Due.due("in the ring", x.about(7), 0);
        Due.due("three writes each", x.about(8), 300);
        Due.due("worn alike", x.about(13), 0);
        x.setStep(30);
        x.drive(20);
        Due.due("not yet", x.about(6), 1000);
        x.drive(1);
        Due.due("30 more than the stored one", x.about(6), 1030);
        x.cut(4, 0);
        Due.due("driven till the cut, its tenth too", x.drive(500), 60);
        Due.due("travelled", x.about(5), 1090);
        Due.due("told then", x.start(), 1060);
        Due.due("travelled is not lost", x.about(5), 1090);
        x.setStep(1);
        x.drive(1);
        Due.due("stored each tenth", x.about(6), 1061);
    }

    private static void driveOnAfterALaterStep() {
        OdometerRing x = new OdometerRing();
        x.setStep(50);
        x.drive(40);
        x.setStep(10);
        Due.due("a smaller step alone stores nothing", x.about(8), 0);
        x.drive(1);
        Due.due("but the next tenth does", x.about(6), 41);
        Due.due("once", x.about(8), 3);
    }

    private static void deadMemory() {
        OdometerRing x = Due.told("O0301010d030");
        Due.due("drive(1)", x.drive(1), 1);
        Due.due("dead", x.about(12), 1);
        Due.due("two slots were tried", x.about(8), 96);
        x.drive(999);
        Due.due("nothing is written any more", x.about(8), 96);
        Due.due("the distance goes on", x.about(4), 1030);
        Due.due("undo", x.undo(), 1);
        x.undo();
        Due.due("not dead before", x.about(12), 0);
        x.replace(2);
        Due.due("drive to the new slot", x.drive(1), 1);
        Due.due("past the worn one", x.about(7), 2);
        Due.due("six writes", x.about(8), 96);
        Due.due("the worn one stays", x.says(1), 28);
        Due.due("the new one tells", x.says(2), 31);
        x.drive(1);
        Due.due("then it is dead", x.about(12), 1);
        Due.due("the current slot was not written", x.says(2), 31);

        // Half a slot is enough: two of the three cells can still be written.
        OdometerRing y = Due.told("O0301010d027c011d001sd001");
        Due.due("stored with two cells", y.about(6), 28);
        Due.due("in slot 1", y.about(7), 1);
    }

    private static void cut() {
        OdometerRing x = new OdometerRing();
        for (int n : new int[] {0, -1, 37, Integer.MIN_VALUE, Integer.MAX_VALUE}) {
            Due.dueArgument("cut(" + n + ", 0)", () -> x.cut(n, 0));
            Due.dueArgument("without power cut(" + n + ", 0)", () -> off().cut(n, 0));
        }
        for (int kind : new int[] {-1, 3, Integer.MIN_VALUE, Integer.MAX_VALUE}) {
            Due.dueArgument("cut(1, " + kind + ")", () -> x.cut(1, kind));
            Due.dueArgument("without power cut(1, " + kind + ")", () -> off().cut(1, kind));
        }
        Due.dueState("cut(1, 0) without power", () -> off().cut(1, 0));
        Due.due("none is set", x.about(10), 0);
        Due.due("cut(36, 2)", x.cut(36, 2), 0);
        Due.due("about(10)", x.about(10), 36);
        x.drive(20);
        Due.due("six writes later", x.about(10), 30);
        Due.due("cut(7, 1)", x.cut(7, 1), 30);
        Due.due("about(10)", x.about(10), 7);
        Due.due("about(11)", x.about(11), 1);
        x.drive(29);
        Due.due("the next write", x.about(10), 1);
        Due.due("drive to it", x.drive(99), 1);
        Due.due("none is set any more", x.about(10), 0);
        Due.due("nor a kind", x.about(11), NONE);
        Due.due("one cut", x.about(9), 1);
        x.start();
        Due.due("none is set after it", x.cut(1, 0), 0);
        x.drive(99);
        x.start();
        Due.due("two cuts", x.about(9), 2);

        OdometerRing last = Due.told("O1201010d120");
        last.cut(34, 1);
        last.drive(1);
        Due.due("33 writes in vain do not reach it", last.about(10), 1);
        Due.due("dead", last.about(12), 1);
        Due.due("on", last.about(3), 1);
        last.undo();
        last.undo();
        last.cut(33, 1);
        last.drive(1);
        Due.due("the last of them does", last.about(3), 0);
        Due.due("not dead while off", last.about(12), 0);
        Due.due("ten tried in vain", last.lastCut(3), 10);
        Due.due("slot 11", last.lastCut(0), 11);
    }

    private static void start() {
        OdometerRing x = new OdometerRing();
        Due.dueState("start()", x::start);
        x.cut(1, 1);
        x.drive(10);
        Due.due("all say 0", x.start(), 0);
        Due.due("the first of them", x.about(7), 0);
        Due.due("its number is stored", x.about(6), 0);
        Due.dueState("start() again", x::start);
        x.drive(10);
        Due.due("stored behind it", x.about(7), 1);
        x.drive(10);
        x.cut(3, 0);
        x.drive(10);
        Due.due("two cells are enough", x.start(), 30);
        Due.due("slot 3", x.about(7), 3);
        Due.due("stored 30", x.about(6), 30);
        x.cut(2, 1);
        x.drive(10);
        Due.due("one is not", x.start(), 30);
        Due.due("slot 3 again", x.about(7), 3);
        Due.due("travelled", x.about(5), 50);

        OdometerRing dead = Due.told("O0301010d030c041d001");
        Due.due("the cut fell in vain", dead.about(3), 0);
        Due.due("start()", dead.start(), 30);
        Due.due("not dead until found", dead.about(12), 0);
        dead.drive(1);
        Due.due("found", dead.about(12), 1);
        Due.dueState("start() of a dead one", dead::start);

        // Two cuts of the kind 2 let a second slot say 100: the one with the smaller number is believed.
        int[] slots = {3, 4};
        int[] first = {0, 2};
        for (int k = 0; k < 2; k++) {
            OdometerRing y = Due.told("O0" + slots[k] + "50100d100");
            Due.due("stored in slot 2", y.about(7), 2);
            y.setStep(12);
            y.cut(2, 2);
            y.drive(12);
            Due.due("one says 100", y.start(), 100);
            y.cut(1, 2);
            y.drive(12);
            Due.due("slot 2 says 100", y.says(2), 100);
            Due.due("the one behind it too", y.says(3 % slots[k]), 100);
            Due.due("two say 100", y.start(), 100);
            Due.due("the first of them", y.about(7), first[k]);
        }
    }

    private static void service() {
        OdometerRing x = new OdometerRing();
        for (int wrong : new int[] {-1, 10, Integer.MIN_VALUE, Integer.MAX_VALUE}) {
            Due.dueArgument("service(" + wrong + ", 0)", () -> x.service(wrong, 0));
            Due.dueArgument("service(0, " + wrong + ")", () -> x.service(0, wrong));
            Due.dueArgument("without power service(0, " + wrong + ")", () -> off().service(0, wrong));
            Due.dueArgument("without power service(" + wrong + ", 0)", () -> off().service(wrong, 0));
        }
        Due.dueState("service(1, 1) without power", () -> off().service(1, 1));
        Due.due("none was noted", x.service(1, 2), NONE);
        x.drive(34);
        Due.due("since then", x.service(1, 2), 34);
        Due.due("another", x.service(2, 1), NONE);
        x.drive(5);
        Due.due("since the last time", x.service(1, 2), 5);
        Due.due("two are noted", x.about(14), 2);
        for (int part = 0; part < 10; part++) {
            Due.due("a new one", x.service(9, part), NONE);
        }
        Due.due("12 are noted", x.about(14), 12);
        Due.dueState("a 13th", () -> x.service(0, 0));
        Due.dueArgument("a 13th that cannot be", () -> x.service(0, 10));
        Due.due("one of the 12 again", x.service(2, 1), 5);
        Due.due("still 12", x.about(14), 12);
        Due.due("it is the last", x.serviceAt(11, 0), 2);
        Due.due("the others moved up", x.serviceAt(0, 0) * 10 + x.serviceAt(0, 1), 12);
        Due.due("and kept their order", x.serviceAt(10, 1), 9);
        x.forget(9, 4);
        Due.due("room for another", x.service(0, 0), NONE);
        x.cut(1, 0);
        x.drive(99);
        x.start();
        Due.due("less than noted", x.about(4), 30);
        Due.due("the distance less the noted one", x.service(9, 9), -9);
    }

    private static void forget() {
        OdometerRing x = new OdometerRing();
        for (int wrong : new int[] {-1, 10, Integer.MIN_VALUE, Integer.MAX_VALUE}) {
            Due.dueArgument("forget(" + wrong + ", 0)", () -> x.forget(wrong, 0));
            Due.dueArgument("forget(0, " + wrong + ")", () -> x.forget(0, wrong));
        }
        Due.dueState("forget(0, 0)", () -> x.forget(0, 0));
        x.drive(3);
        x.service(1, 1);
        x.drive(3);
        x.service(1, 2);
        x.drive(3);
        x.service(2, 1);
        Due.due("forget(1, 2)", x.forget(1, 2), 6);
        Due.dueState("forget(1, 2) again", () -> x.forget(1, 2));
        Due.due("two are left", x.about(14), 2);
        Due.due("the first", x.serviceAt(0, 2), 3);
        Due.due("the second", x.serviceAt(1, 2), 9);
        Due.due("no third", x.serviceAt(2, 2), NONE);
        x.cut(1, 0);
        x.drive(99);
        Due.due("also while the power is off", x.forget(1, 1), 3);
        Due.due("one is left", x.about(14), 1);
        Due.due("then none", x.forget(2, 1) + x.about(14), 9);
    }

    private static void setStep() {
        OdometerRing x = new OdometerRing();
        for (int step : new int[] {0, -1, 100, Integer.MIN_VALUE, Integer.MAX_VALUE}) {
            Due.dueArgument("setStep(" + step + ")", () -> x.setStep(step));
        }
        Due.due("the step stays", x.about(1), 10);
        Due.due("setStep(99)", x.setStep(99), 10);
        Due.due("setStep(1)", x.setStep(1), 99);
        Due.due("setStep(1) again", x.setStep(1), 1);
        OdometerRing off = off();
        Due.due("also while the power is off", off.setStep(7), 10);
        Due.due("about(1)", off.about(1), 7);
        off.start();
        off.drive(7);
        Due.due("it counts from the stored number", off.about(6), 17);
    }

    private static void replace() {
        OdometerRing x = new OdometerRing();
        x.drive(60);
        for (int slot : new int[] {-1, 4, Integer.MIN_VALUE, Integer.MAX_VALUE}) {
            Due.dueIndex("replace(" + slot + ")", () -> x.replace(slot));
            Due.dueIndex("without power replace(" + slot + ")", () -> off().replace(slot));
        }
        Due.dueState("replace(3) without power", () -> off().replace(3));
        Due.dueState("replace of the current slot", () -> x.replace(2));
        Due.due("replace(1)", x.replace(1), 6);
        Due.due("replace(1) again", x.replace(1), 0);
        Due.due("replace(3)", x.replace(3), 3);
        for (int i = 0; i < 3; i++) {
            Due.due("it holds 0", x.cell(1, i, 0), 0);
            Due.due("with no wear", x.cell(1, i, 1), 0);
        }
        Due.due("the others stay", x.says(0), 40);
        Due.due("this was no write", x.about(8), 18);
        x.cut(2, 1);
        x.replace(0);
        Due.due("the cut stays set", x.about(10), 2);
        x.drive(10);
        Due.due("wear of an unreadable slot", x.start() + x.replace(3), 62);
        Due.due("readable again", x.says(3), 0);
        x.replace(0);
        Due.dueState("replace of the current slot again", () -> x.replace(2));
    }

    private static void undo() {
        OdometerRing x = new OdometerRing();
        Due.dueState("undo()", x::undo);
        x.drive(15);
        x.setStep(5);
        x.service(3, 3);
        x.cut(2, 1);
        x.drive(99);
        x.start();
        x.drive(2);
        x.replace(0);
        x.forget(3, 3);
        Due.due("forget back", x.undo(), 8);
        Due.due("the service is back", x.serviceAt(0, 2), 15);
        Due.due("replace back", x.undo(), 7);
        Due.due("drive back", x.undo(), 6);
        Due.due("the distance", x.about(4), 10);
        Due.due("start back", x.undo(), 5);
        Due.due("the power is off", x.about(3), 0);
        Due.due("the cut is known", x.lastCut(2), 1);
        Due.due("the cell is unreadable", x.cell(2, 1, 0), NONE);
        Due.due("the cut drive back", x.undo(), 4);
        Due.due("the power is on", x.about(3), 1);
        Due.due("the distance is known", x.about(4), 15);
        Due.due("the stored number too", x.about(6), 10);
        Due.due("the current slot too", x.about(7), 1);
        Due.due("no cut was", x.lastCut(0) + x.about(9), NONE);
        Due.due("but it is set", x.about(10), 2);
        Due.due("the cell is as it was", x.cell(2, 1, 0) + x.cell(2, 0, 1), 0);
        Due.due("the writes", x.about(8), 3);
        Due.due("travelled", x.about(5), 15);
        Due.due("cut back", x.undo(), 3);
        Due.due("none is set", x.about(10), 0);
        Due.due("service back", x.undo(), 2);
        Due.due("none is noted", x.about(14), 0);
        Due.due("setStep back", x.undo(), 1);
        Due.due("the step", x.about(1), 10);
        Due.due("drive back", x.undo(), 0);
        Due.due("nothing was travelled", x.about(5), 0);
        Due.dueState("no more", x::undo);
    }

    private static void undoOfCutsAndServices() {
        OdometerRing x = new OdometerRing();
        x.cut(5, 0);
        x.cut(6, 2);
        x.undo();
        Due.due("the cut set before", x.about(10), 5);
        Due.due("its kind", x.about(11), 0);
        x.drive(99);
        x.start();
        x.cut(3, 1);
        x.drive(99);
        int[] later = {2, 2, 1, 0};
        int[] before = {2, 1, 0, 0};
        for (int what = 0; what < 4; what++) {
            Due.due("lastCut(" + what + ")", x.lastCut(what), later[what]);
        }
        x.undo();
        for (int what = 0; what < 4; what++) {
            Due.due("lastCut(" + what + ") back", x.lastCut(what), before[what]);
        }
        OdometerRing worn = Due.told("O0301010d030c041d001s");
        Due.due("one slot in vain", worn.lastCut(3), 1);
        worn.cut(1, 0);
        worn.drive(1);
        Due.due("none in vain", worn.lastCut(3), 0);
        worn.undo();
        Due.due("one slot in vain before", worn.lastCut(3), 1);

        OdometerRing y = new OdometerRing();
        y.drive(5);
        y.service(1, 1);
        y.service(2, 2);
        y.drive(5);
        y.service(1, 1);
        Due.due("noted anew", y.serviceAt(1, 2), 10);
        y.undo();
        Due.due("the older one is the first again", y.serviceAt(0, 0), 1);
        Due.due("with its distance", y.serviceAt(0, 2), 5);
        Due.due("since then", y.service(1, 1), 5);
    }

    private static void undoCounts() {
        OdometerRing x = new OdometerRing();
        for (int k = 1; k <= 17; k++) {
            x.drive(k);
        }
        int distance = 153;
        for (int k = 17; k >= 4; k--) {
            Due.due("undo of drive(" + k + ")", x.undo(), k - 4);
            distance -= k;
            Due.due("distance", x.about(4), distance);
        }
        Due.dueState("only 14 are remembered", x::undo);
        Due.due("the first three stay", x.about(4), 6);

        OdometerRing y = new OdometerRing();
        y.setStep(10);
        y.cut(5, 0);
        y.cut(5, 0);
        y.replace(1);
        Due.due("also where nothing becomes different", y.undo(), 3);
        Due.outcome(() -> y.drive(0));
        Due.outcome(() -> y.drive(1000));
        Due.outcome(() -> y.cut(0, 0));
        Due.outcome(() -> y.start());
        Due.outcome(() -> y.service(10, 0));
        Due.outcome(() -> y.forget(1, 1));
        Due.outcome(() -> y.setStep(0));
        Due.outcome(() -> y.replace(0));
        Due.outcome(() -> y.replace(9));
        y.append('O');
        y.save(0);
        y.errorPosition();
        y.afterCut(1, 1);
        y.worstLoss();
        y.lasts(3);
        y.simulate(4, 4);
        y.runScript(1, 1020);
        Due.due("only actions that do not throw", y.undo(), 2);
        Due.due("undo is none", y.undo(), 1);
        y.drive(3);
        Due.due("remembered after an undo", y.undo(), 1);
        Due.due("before it", y.undo(), 0);
        Due.due("the text stays", y.clearText(), 1);
        Due.due("the save slots stay", y.restore(0), 0);
        Due.due("what was saved", y.about(10), 5);
    }

    public static void main(String[] args) {
        drive();
        driveOnAfterALaterStep();
        deadMemory();
        cut();
        start();
        service();
        forget();
        setStep();
        replace();
        undo();
        undoOfCutsAndServices();
        undoCounts();
        Due.finish();
    }
}
