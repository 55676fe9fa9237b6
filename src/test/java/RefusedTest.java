import java.util.ArrayList;
import java.util.List;
import java.util.Set;
import java.util.TreeSet;

/**
 * What the document says of exceptions, and of the calls that change nothing: each call is done on one of two objects that
 * were made alike, and everything that can be seen of them must be the same then.
 */
public final class RefusedTest {
    private static final List<Made> OBJECTS = Made.all();

    /** Compares look by look, so that what is printed is the look that differs. */
    private static void dueUnchanged(Made object, Calls.Call call) {
        String seen = Whole.seen(() -> {
            OdometerRing x = object.anew.get();
            call.outcome(x);
            return x;
        });
        String[] got = seen.split("\n");
        String[] want = object.seen.split("\n");
        Due.due(object.when + ": looks behind " + call.words, got.length, want.length);
        for (int k = 0; k < Math.min(got.length, want.length); k++) {
            Due.dueText(object.when + ": look " + k + " behind " + call.words, got[k], want[k]);
        }
    }

    private static void refusedCalls() {
        Due.sentence("A call that throws an exception changes nothing.");
        List<Calls.Call> calls = new ArrayList<>();
        calls.addAll(Calls.actions());
        calls.addAll(Calls.textAndSaveSlots());
        calls.addAll(Calls.looks());
        calls.addAll(Calls.whatWouldBe());
        Set<String> refused = new TreeSet<>();
        for (Made object : OBJECTS) {
            for (Calls.Call call : calls) {
                String outcome = call.outcome(object.anew.get());
                if (outcome.endsWith("Exception")) {
                    refused.add(call.name + " " + outcome);
                    dueUnchanged(object, call);
                }
            }
        }
        Due.sentence("IndexOutOfBoundsException means that a slot or a cell does not exist, or that a save slot is not 0 or 1."
            + " IllegalArgumentException means that another argument is out of its range. IllegalStateException means what the"
            + " method says.");
        dueAllExceptions(refused);
    }

    /** Each exception that a method may throw has been thrown, and no other one. */
    private static void dueAllExceptions(Set<String> refused) {
        Set<String> due = new TreeSet<>();
        addDue(due, "IllegalArgumentException", "append", "about", "cell", "serviceAt", "lastCut", "drive", "cut", "service",
            "forget", "setStep", "afterCut", "lasts", "dueIn", "runScript", "simulate");
        addDue(due, "IllegalStateException", "append", "load", "drive", "cut", "start", "service", "forget", "replace", "undo",
            "afterCut", "worstLoss", "lasts", "dueIn", "restore");
        addDue(due, "IndexOutOfBoundsException", "cell", "says", "whySilent", "share", "replace", "save", "restore");
        Due.dueText("the exceptions that were thrown", refused.toString(), due.toString());
    }

    private static void addDue(Set<String> due, String exception, String... names) {
        for (String name : names) {
            due.add(name + " " + exception);
        }
    }

    private static void callsThatChangeNothing() {
        Due.sentence("these and all following methods up to the save slots change nothing.");
        dueAllUnchanged(Calls.whatWouldBe());
        Due.sentence("The methods in the section \"actions\" change the state");
        dueAllUnchanged(Calls.looks());
    }

    private static void dueAllUnchanged(List<Calls.Call> calls) {
        for (Made object : OBJECTS) {
            for (Calls.Call call : calls) {
                dueUnchanged(object, call);
            }
        }
    }

    private static void firstNamed() {
        Due.sentence("If several exceptions apply to a call, the one that its description names first is thrown.");
        Due.dueArgument("append(256) to a full text", () -> Made.full().append(256));
        Due.dueState("append(255) to a full text", () -> Made.full().append(255));
        Due.dueIndex("cell: slot and what", () -> Made.full().cell(3, 0, 3));
        Due.dueIndex("cell: cell and what", () -> Made.full().cell(0, 3, 3));
        Due.dueArgument("cell: what", () -> Made.full().cell(2, 2, 3));
        Due.dueArgument("drive(1000) without power", () -> Made.off().drive(1000));
        Due.dueState("drive(999) without power", () -> Made.off().drive(999));
        Due.dueArgument("cut(37, 0) without power", () -> Made.off().cut(37, 0));
        Due.dueArgument("cut(36, 3) without power", () -> Made.off().cut(36, 3));
        Due.dueState("cut(36, 2) without power", () -> Made.off().cut(36, 2));
        Due.dueArgument("service(10, 9) without power", () -> Made.off().service(10, 9));
        Due.dueArgument("service(9, 10) as a 13th", () -> Made.full().service(9, 10));
        Due.dueState("service(9, 9) as a 13th", () -> Made.full().service(9, 9));
        Due.dueArgument("forget(9, 10), not noted", () -> Made.full().forget(9, 10));
        Due.dueState("forget(9, 9), not noted", () -> Made.full().forget(9, 9));
        Due.dueIndex("replace(3) of 3 slots without power", () -> Made.offInUse().replace(3));
        Due.dueState("replace(2) of 3 slots without power", () -> Made.offInUse().replace(2));
        Due.dueArgument("afterCut(37, 0) without power", () -> Made.off().afterCut(37, 0));
        Due.dueArgument("afterCut(36, 3) on a dead memory", () -> Made.dead().afterCut(36, 3));
        Due.dueState("afterCut(36, 2) on a dead memory", () -> Made.dead().afterCut(36, 2));
        Due.dueArgument("lasts(100) without power", () -> Made.off().lasts(100));
        Due.dueState("lasts(99) without power", () -> Made.off().lasts(99));
        Due.dueArgument("dueIn(9, 10, 1) without power", () -> Made.offInUse().dueIn(9, 10, 1));
        Due.dueArgument("dueIn(9, 9, 10000) without power", () -> Made.offInUse().dueIn(9, 9, 10000));
        Due.dueState("dueIn(9, 9, 9999) without power", () -> Made.offInUse().dueIn(9, 9, 9999));
        Due.dueIndex("restore(2) of a new one", () -> new OdometerRing().restore(2));
        Due.dueState("restore(1) of a new one", () -> new OdometerRing().restore(1));
    }

    private static void ownObjects() {
        Due.due("in use: the power", Made.inUse().about(3), 1);
        Due.due("in use: the cut that is set", Made.inUse().about(11), 2);
        Due.due("off: the power", Made.off().about(3) + Made.offInUse().about(3), 0);
        Due.due("full: the text", Made.full().clearText(), 90);
        Due.due("full: the text is a story", Made.full().errorPosition(), Due.NONE);
        Due.due("full: services", Made.full().about(14), 12);
        Due.due("worn: slots in vain", Made.worn().lastCut(3), 1);
        Due.due("worn: the cut that is set", Made.worn().about(10), 1);
        Due.due("dead", Made.dead().about(12), 1);
    }

    public static void main(String[] args) {
        ownObjects();
        refusedCalls();
        callsThatChangeNothing();
        firstNamed();
        Due.finish();
    }
}
