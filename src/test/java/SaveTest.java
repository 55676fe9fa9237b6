/** Promises 28 and 29: save, restore. */
public final class SaveTest {
    private static final int NONE = Due.NONE;

    private static void arguments() {
        OdometerRing x = new OdometerRing();
        for (int slot : new int[] {-1, 2, 4, Integer.MIN_VALUE, Integer.MAX_VALUE}) {
            Due.dueIndex("save(" + slot + ")", () -> x.save(slot));
            Due.dueIndex("restore(" + slot + ")", () -> x.restore(slot));
        }
        Due.dueState("restore(0)", () -> x.restore(0));
        Due.dueState("restore(1)", () -> x.restore(1));
        x.drive(10);
        Due.due("save(1)", x.save(1), 10);
        Due.dueState("restore(0) still", () -> x.restore(0));
        Due.due("the exceptions and save forget nothing", x.undo(), 0);
        Due.due("restore(1)", x.restore(1), 10);
    }

    private static void wholeState() {
        OdometerRing x = Due.told("O0503020");
        x.drive(22);
        x.service(6, 4);
        x.cut(2, 1);
        x.drive(99);
        Due.due("save(0) without power", x.save(0), 24);
        x.start();
        x.setStep(50);
        x.forget(6, 4);
        x.replace(4);
        x.cut(9, 2);
        Due.due("save(1)", x.save(1), 24);
        x.drive(300);
        x.append('s');
        Due.due("restore(0)", x.restore(0), 24);
        Due.dueState("nothing is remembered", x::undo);
        int[] about = {5, 3, 20, 0, NONE, 24, NONE, NONE, 23, 1, 0, NONE, 0, 1, 1};
        for (int what = 0; what < about.length; what++) {
            Due.due("about(" + what + ")", x.about(what), about[what]);
        }
        Due.due("the unreadable cell", x.cell(3, 1, 0), NONE);
        Due.due("lastCut(0)", x.lastCut(0), 3);
        Due.due("lastCut(2)", x.lastCut(2), 1);
        Due.due("the service", x.serviceAt(0, 2), 22);
        Due.due("the text stays", x.clearText(), 9);
        Due.due("start()", x.start(), 21);
        x.drive(99);
        x.service(1, 1);
        x.setStep(2);
        Due.due("the save slot keeps it", x.restore(0), 24);
        Due.due("as it was", x.about(1) + x.about(14), 4);
        Due.due("the power", x.about(3), 0);
        Due.due("restore(1)", x.restore(1), 24);
        Due.due("the other state", x.about(10) + x.about(1), 59);
        Due.due("without the service", x.dueFirst(), NONE);
        x.drive(3);
        Due.due("save over it", x.save(1), 27);
        x.drive(3);
        Due.due("restore the newer one", x.restore(1), 27);
        Due.due("distance", x.about(4), 24);
        x.drive(1);
        Due.due("remembered from then on", x.undo(), 0);
        Due.due("the other save slot", x.restore(0), 24);
        Due.due("has its own", x.about(3), 0);
    }

    private static void saveTwice() {
        OdometerRing x = new OdometerRing();
        x.drive(5);
        x.save(0);
        x.drive(5);
        x.save(1);
        x.drive(5);
        Due.due("restore(0)", x.restore(0), 5);
        Due.due("distance", x.about(4), 5);
        Due.due("says(1)", x.says(1), 0);
        Due.due("restore(1)", x.restore(1), 10);
        Due.due("says(1) then", x.says(1), 10);
        for (int k = 0; k < 20; k++) {
            x.drive(1);
        }
        x.restore(0);
        Due.dueState("all is forgotten", x::undo);
        for (int k = 1; k <= 3; k++) {
            x.drive(k);
        }
        Due.due("undo", x.undo(), 2);
        Due.due("undo", x.undo(), 1);
        Due.due("undo", x.undo(), 0);
        Due.due("back to what was restored", x.about(5), 5);
    }

    private static void emptiedByLoad() {
        OdometerRing x = new OdometerRing();
        x.drive(5);
        x.save(0);
        x.save(1);
        Due.write(x, "O0301");
        Due.dueState("no story", x::load);
        Due.due("the save slots stay", x.restore(0), 5);
        Due.write(x, "O0301010d003");
        x.load();
        Due.dueState("restore(0) after load", () -> x.restore(0));
        Due.dueState("restore(1) after load", () -> x.restore(1));
        Due.due("save(0) after load", x.save(0), 3);
        Due.due("restore(0) after it", x.restore(0), 3);
        Due.dueState("restore(1) after it", () -> x.restore(1));
    }

    public static void main(String[] args) {
        arguments();
        wholeState();
        saveTwice();
        emptiedByLoad();
        Due.finish();
    }
}
