/** The boundaries that the document names in "ACTIONS AND UNDO" and in the promises 20, 28 and 29, sentence by sentence. */
public final class UndoBoundsTest {
    private static final int NONE = Due.NONE;

    /** Takes back all that is remembered, each time by one tenth, and finds that nothing more is. */
    private static void dueUndone(OdometerRing x, int remembered, int distance) {
        for (int k = 1; k <= remembered; k++) {
            Due.due("undo() of " + remembered, x.undo(), remembered - k);
            Due.due("the distance then", x.about(4), distance - k);
        }
        Due.dueState("undo() when none is remembered", x::undo);
        Due.due("the distance stays", x.about(4), distance - remembered);
    }

    private static void drivenOneByOne(OdometerRing x, int times) {
        for (int k = 0; k < times; k++) {
            x.drive(1);
        }
    }

    // ---- undo

    private static void atMostFourteen() {
        Due.sentence("At most 14 states are remembered; when one more is remembered, the oldest one is forgotten.");
        for (int actions : new int[] {0, 1, 2, 13, 14, 15, 16, 27, 28, 29, 100}) {
            OdometerRing x = new OdometerRing();
            drivenOneByOne(x, actions);
            dueUndone(x, Math.min(actions, 14), actions);
        }
        for (int undone = 1; undone <= 14; undone++) {
            OdometerRing x = new OdometerRing();
            drivenOneByOne(x, 20);
            for (int k = 0; k < undone; k++) {
                x.undo();
            }
            drivenOneByOne(x, undone - 1);
            dueUndone(x, 13, 19);
            drivenOneByOne(x, 14);
            x.undo();
            drivenOneByOne(x, 2);
            dueUndone(x, 14, 21);
        }
        Due.sentence("Throws IllegalStateException if none is remembered");
        Due.dueState("undo() of a new one", () -> new OdometerRing().undo());
        Due.dueState("undo() behind load", () -> Made.off().undo());
        OdometerRing one = new OdometerRing();
        one.drive(1);
        Due.due("undo() of one action", one.undo(), 0);
        Due.dueState("undo() of none", one::undo);
    }

    /** The call has been one action, and undo makes it so that this answer is as it was. */
    private static void dueAction(String call, OdometerRing x, Due.Call action, int what, int before) {
        Due.dueText(call + " is taken", Due.outcome(action).matches("-?[0-9]+") ? "yes" : "no", "yes");
        Due.due("undo() of " + call, x.undo(), 0);
        Due.due("about(" + what + ") before " + call, x.about(what), before);
        Due.dueState("one state for " + call, x::undo);
    }

    private static void eachCallIsAnAction() {
        Due.sentence("Each call of one of them that does not throw an exception is an action, also if nothing becomes different or"
            + " the power is cut in it (undo is none).");
        OdometerRing x = Due.told("O0410100d015m35");
        dueAction("drive(1)", x, () -> x.drive(1), 5, 15);
        dueAction("cut(36, 0)", x, () -> x.cut(36, 0), 10, 0);
        dueAction("service(3, 6)", x, () -> x.service(3, 6), 14, 1);
        dueAction("service(3, 5), as it was noted", x, () -> x.service(3, 5), 14, 1);
        dueAction("forget(3, 5)", x, () -> x.forget(3, 5), 14, 1);
        dueAction("setStep(3)", x, () -> x.setStep(3), 1, 10);
        dueAction("setStep(10), as it is", x, () -> x.setStep(10), 1, 10);
        dueAction("replace(0), as it is", x, () -> x.replace(0), 13, 1);
        OdometerRing set = Due.told("O0410100d015c010");
        dueAction("cut(1, 0), as it is set", set, () -> set.cut(1, 0), 10, 1);
        dueAction("drive(9) to the cut", set, () -> set.drive(9), 3, 1);
        OdometerRing off = Made.off();
        dueAction("start()", off, off::start, 3, 0);
        dueAction("setStep(10) without power", off, () -> off.setStep(10), 1, 10);
        dueAction("forget(3, 5) without power", off, () -> off.forget(3, 5), 14, 1);
        OdometerRing dead = Due.told("O0301010d031");
        dueAction("drive(1) on a dead memory", dead, () -> dead.drive(1), 4, 31);
        OdometerRing y = new OdometerRing();
        drivenOneByOne(y, 3);
        Due.due("undo() takes one", y.undo(), 2);
        Due.due("undo() takes the next one, not undo()", y.undo(), 1);
        Due.due("the distance then", y.about(4), 1);
    }

    private static void whatIsNoAction() {
        Due.sentence("The methods in the section \"actions\" change the state, which consists of everything but the text and the"
            + " save slots.");
        OdometerRing x = new OdometerRing();
        x.drive(5);
        x.append('O');
        x.save(1);
        x.errorPosition();
        for (int what = 0; what <= 14; what++) {
            x.about(what);
        }
        x.cell(0, 0, 0);
        x.says(0);
        x.whySilent(0);
        x.share(0);
        x.serviceAt(0, 0);
        x.lastCut(0);
        x.afterCut(1, 1);
        x.worstLoss();
        x.lasts(1);
        x.dueIn(0, 0, 1);
        x.dueFirst();
        x.runScript(1, 1001);
        x.simulate(1, 1);
        Due.due("undo() of the one action", x.undo(), 0);
        Due.due("the distance", x.about(4), 0);
        Due.due("the text stays", x.clearText(), 1);
        Due.dueState("the save slot 0 stays empty", () -> x.restore(0));
        Due.due("the save slot 1 stays full", x.restore(1), 5);
    }

    private static void takenBack() {
        Due.sentence("Takes back the last action that is remembered. Returns how many states are still remembered.");
        for (Made object : Made.all()) {
            for (Calls.Call call : Calls.actions()) {
                OdometerRing x = object.anew.get();
                String before = Whole.state(x);
                if (call.isTaken(x)) {
                    x.undo();
                    Due.dueText(object.when + ": undo() of " + call.words, Whole.state(x), before);
                }
            }
        }
        OdometerRing again = Due.told("O0410100d015m35m12d003");
        again.service(3, 5);
        Due.due("noted anew", again.serviceAt(1, 2), 18);
        again.undo();
        Due.due("noted before", again.serviceAt(0, 2), 15);
    }

    private static void loadAndRestore() {
        Due.sentence("load and restore are not actions.");
        OdometerRing x = new OdometerRing();
        Due.write(x, "O0410100d003s");
        x.load();
        Due.dueState("undo() behind load", x::undo);
        x.save(0);
        x.restore(0);
        Due.dueState("undo() behind restore", x::undo);
        drivenOneByOne(x, 15);
        dueUndone(x, 14, 18);
        drivenOneByOne(x, 20);
        x.restore(0);
        drivenOneByOne(x, 2);
        dueUndone(x, 2, 5);
    }

    // ---- save, restore

    private static void noSuchSaveSlot() {
        Due.sentence("Throws IndexOutOfBoundsException if there is no such save slot");
        OdometerRing x = new OdometerRing();
        for (int slot : new int[] {-1, 2, 3, Integer.MIN_VALUE, Integer.MAX_VALUE}) {
            Due.dueIndex("save(" + slot + ")", () -> x.save(slot));
            Due.dueIndex("restore(" + slot + ")", () -> x.restore(slot));
        }
        Due.due("save(0)", x.save(0), 0);
        Due.due("save(1)", x.save(1), 0);
        for (int slot : new int[] {-1, 2, 3, Integer.MIN_VALUE, Integer.MAX_VALUE}) {
            Due.dueIndex("restore(" + slot + ") when both are full", () -> x.restore(slot));
        }
        Due.due("restore(0)", x.restore(0), 0);
        Due.due("restore(1)", x.restore(1), 0);
    }

    private static void nothingSaved() {
        Due.sentence("Throws IllegalStateException if nothing has been saved in it since the last load");
        for (int slot = 0; slot <= 1; slot++) {
            int full = slot;
            int empty = 1 - slot;
            OdometerRing x = new OdometerRing();
            Due.dueState("restore() of a new one", () -> x.restore(full));
            x.drive(5);
            x.save(full);
            Due.due("restore() of the full one", x.restore(full), 5);
            Due.dueState("restore() of the empty one", () -> x.restore(empty));
            x.append('x');
            Due.dueState("no story", x::load);
            Due.due("restore() behind a load that was refused", x.restore(full), 5);
            Due.write(x, "O0410100");
            Due.due("restore() before load", x.restore(full), 5);
            x.load();
            Due.dueState("restore() behind load", () -> x.restore(full));
            Due.dueState("restore() of the other behind load", () -> x.restore(empty));
            x.save(empty);
            Due.dueState("restore() of the one that was not saved again", () -> x.restore(full));
            Due.due("restore() of the one that was", x.restore(empty), 0);
        }
    }

    private static void travelledSoFar() {
        Due.sentence("Returns what was travelled so far.");
        Due.due("save(0) of a new one", new OdometerRing().save(0), 0);
        OdometerRing off = Made.off();
        Due.due("save(0) without power", off.save(0), 20);
        off.start();
        Due.due("save(0) with less distance", off.save(0), 20);
        off.drive(1);
        Due.due("save(1)", off.save(1), 21);
        off.drive(1);
        Due.due("save(1) over it", off.save(1), 22);
        Due.due("the present state stays", off.about(5), 22);
    }

    private static void savedState() {
        Due.sentence("Stores the present state in a save slot.");
        for (Made object : Made.all()) {
            String saved = Whole.state(object.anew.get());
            OdometerRing x = object.anew.get();
            x.save(0);
            Due.dueText(object.when + ": behind save(0)", Whole.state(x), saved);
            for (Calls.Call call : Calls.actions()) {
                call.outcome(x);
            }
            x.restore(0);
            Due.dueText(object.when + ": behind restore(0)", Whole.state(x), saved);
        }
    }

    private static void saveSlotKeeps() {
        Due.sentence("Replaces the state by the one in a save slot, and forgets all remembered states. The save slot keeps it.");
        OdometerRing x = Made.off();
        x.save(0);
        x.start();
        x.setStep(3);
        x.drive(15);
        x.save(1);
        x.drive(15);
        for (int turn = 0; turn < 3; turn++) {
            Due.due("restore(0)", x.restore(0), 20);
            Due.due("the power then", x.about(3), 0);
            Due.due("the step then", x.about(1), 10);
            Due.due("the cut then", x.lastCut(0), 2);
            Due.due("the service then", x.serviceAt(0, 2), 15);
            Due.dueState("nothing is remembered", x::undo);
            x.start();
            x.forget(3, 5);
            x.drive(50);
            Due.due("restore(1)", x.restore(1), 35);
            Due.due("the power then", x.about(3), 1);
            Due.due("the step then", x.about(1), 3);
            Due.due("the distance then", x.about(4), 25);
            Due.due("the stored number then", x.about(6), 25);
            Due.dueState("nothing is remembered", x::undo);
            x.replace(0);
            x.cut(1, 1);
            x.drive(50);
        }
        Due.sentence("Returns what was travelled then.");
        Due.due("restore(0) at last", x.restore(0), 20);
        Due.due("restore(1) at last", x.restore(1), 35);
        OdometerRing y = new OdometerRing();
        y.cut(5, 2);
        y.save(0);
        y.drive(99);
        Due.due("restore() to a state before a cut", y.restore(0), 0);
        Due.due("the cut is set", y.about(10), 5);
        Due.due("with its kind", y.about(11), 2);
        Due.due("none has fallen", y.lastCut(0), NONE);
    }

    public static void main(String[] args) {
        atMostFourteen();
        eachCallIsAnAction();
        whatIsNoAction();
        takenBack();
        loadAndRestore();
        noSuchSaveSlot();
        nothingSaved();
        travelledSoFar();
        savedState();
        saveSlotKeeps();
        Due.finish();
    }
}
