import java.util.ArrayList;
import java.util.List;
import java.util.function.IntFunction;

/** Tables of calls, each argument in turn at the edges that the document names, on both sides. */
final class Calls {
    interface On {
        long answer(OdometerRing x);
    }

    static final class Call {
        final String name;
        final String words;
        private final On on;

        Call(String name, String words, On on) {
            this.name = name;
            this.words = name + "(" + words + ")";
            this.on = on;
        }

        String outcome(OdometerRing x) {
            return Due.outcome(() -> on.answer(x));
        }

        boolean isTaken(OdometerRing x) {
            return !outcome(x).endsWith("Exception");
        }
    }

    private static final int[] EDGES = {
        Integer.MIN_VALUE, -1, 0, 1, 2, 3, 4, 9, 10, 12, 14, 15, 36, 37, 99, 100, 255, 256, 999, 1000, 9999, 10000,
        Integer.MAX_VALUE
    };

    private Calls() {
    }

    /** The call with each of the edges between these words. */
    private static void addEach(List<Call> calls, String name, String before, String after, IntFunction<On> at) {
        for (int edge : EDGES) {
            calls.add(new Call(name, before + edge + after, at.apply(edge)));
        }
    }

    static List<Call> actions() {
        List<Call> calls = new ArrayList<>();
        addEach(calls, "drive", "", "", e -> x -> x.drive(e));
        addEach(calls, "cut", "", ", 0", e -> x -> x.cut(e, 0));
        addEach(calls, "cut", "1, ", "", e -> x -> x.cut(1, e));
        calls.add(new Call("start", "", OdometerRing::start));
        addEach(calls, "service", "", ", 5", e -> x -> x.service(e, 5));
        addEach(calls, "service", "3, ", "", e -> x -> x.service(3, e));
        addEach(calls, "forget", "", ", 5", e -> x -> x.forget(e, 5));
        addEach(calls, "forget", "3, ", "", e -> x -> x.forget(3, e));
        addEach(calls, "setStep", "", "", e -> x -> x.setStep(e));
        addEach(calls, "replace", "", "", e -> x -> x.replace(e));
        return calls;
    }

    static List<Call> textAndSaveSlots() {
        List<Call> calls = new ArrayList<>();
        addEach(calls, "append", "", "", e -> x -> x.append(e));
        calls.add(new Call("load", "", OdometerRing::load));
        addEach(calls, "save", "", "", e -> x -> x.save(e));
        addEach(calls, "restore", "", "", e -> x -> x.restore(e));
        calls.add(new Call("undo", "", OdometerRing::undo));
        return calls;
    }

    static List<Call> looks() {
        List<Call> calls = new ArrayList<>();
        calls.add(new Call("errorPosition", "", OdometerRing::errorPosition));
        addEach(calls, "about", "", "", e -> x -> x.about(e));
        addEach(calls, "cell", "", ", 0, 0", e -> x -> x.cell(e, 0, 0));
        addEach(calls, "cell", "2, ", ", 1", e -> x -> x.cell(2, e, 1));
        addEach(calls, "cell", "0, 2, ", "", e -> x -> x.cell(0, 2, e));
        addEach(calls, "says", "", "", e -> x -> x.says(e));
        addEach(calls, "whySilent", "", "", e -> x -> x.whySilent(e));
        addEach(calls, "share", "", "", e -> x -> x.share(e));
        addEach(calls, "serviceAt", "", ", 0", e -> x -> x.serviceAt(e, 0));
        addEach(calls, "serviceAt", "0, ", "", e -> x -> x.serviceAt(0, e));
        addEach(calls, "lastCut", "", "", e -> x -> x.lastCut(e));
        return calls;
    }

    static List<Call> whatWouldBe() {
        List<Call> calls = new ArrayList<>();
        addEach(calls, "afterCut", "", ", 1", e -> x -> x.afterCut(e, 1));
        addEach(calls, "afterCut", "2, ", "", e -> x -> x.afterCut(2, e));
        calls.add(new Call("worstLoss", "", OdometerRing::worstLoss));
        addEach(calls, "lasts", "", "", e -> x -> x.lasts(e));
        addEach(calls, "dueIn", "", ", 5, 1", e -> x -> x.dueIn(e, 5, 1));
        addEach(calls, "dueIn", "3, ", ", 1", e -> x -> x.dueIn(3, e, 1));
        addEach(calls, "dueIn", "3, 5, ", "", e -> x -> x.dueIn(3, 5, e));
        calls.add(new Call("dueFirst", "", OdometerRing::dueFirst));
        addEach(calls, "runScript", "", ", 2010", e -> x -> x.runScript(e, 2010));
        addEach(calls, "runScript", "1, ", "", e -> x -> x.runScript(1, e));
        long[] scripts = {
            2010109930004120L, 6001101040109000L, 6002201210509100L, 3000500073008099L, 9000910092009300L, 4000411042206099L,
            10000000000000000L, Long.MAX_VALUE, Long.MIN_VALUE
        };
        for (long script : scripts) {
            calls.add(new Call("runScript", "4, " + script, x -> x.runScript(4, script)));
        }
        addEach(calls, "simulate", "1, ", "", e -> x -> x.simulate(1, e));
        addEach(calls, "simulate", "", ", 99", e -> x -> x.simulate(e, 99));
        return calls;
    }
}
