/** Long runs of chosen calls, each answered by the class and by Model. The numbers are drawn from a fixed seed. */
public final class ModelTest {
    private static final int RUNS = 6000;
    private static final int MOST_CALLS = 512;
    /** What a new text takes at most: 90 characters, and a call before and two behind them. */
    private static final int CALLS_OF_A_TEXT = 93;
    /** What a look at all of the largest memory takes. */
    private static final int CALLS_OF_A_LOOK = 15 + 4 + 12 * (3 + 9) + 39;
    private static final int[] EDGES = {
        Integer.MIN_VALUE, -100000, -99999, -1, 0, 1, 2, 3, 4, 9, 10, 11, 12, 13, 14, 15, 35, 36, 37, 98, 99, 100, 255, 256,
        999, 1000, 9998, 9999, 10000, Integer.MAX_VALUE
    };

    private long seed;
    private OdometerRing ring;
    private Model model;
    private String log;
    private int calls;
    private boolean good = true;

    private int below(int bound) {
        seed = seed * 6364136223846793005L + 1442695040888963407L;
        return (int) ((seed >>> 33) % bound);
    }

    private int from(int least, int most) {
        return below(40) == 0 ? EDGES[below(EDGES.length)] : least + below(most - least + 1);
    }

    private void same(String call, Due.Call onRing, Due.Call onModel) {
        calls++;
        String got = Due.outcome(onRing);
        String want = Due.outcome(onModel);
        log += call + " = " + want + "; ";
        if (good && !got.equals(want)) {
            good = false;
            System.out.println("the run " + log);
        }
        Due.dueText(call, got, want);
    }


    private String story() {
        int n = below(3) == 0 ? 3 + below(10) : 3 + below(2);
        int limit = below(3) == 0 ? 10 + below(990) : 10 + below(6);
        StringBuilder s = new StringBuilder("O" + Due.digits(n, 2) + Due.digits(below(2) == 0 ? 1 + below(3) : 1 + below(99), 2) + Due.digits(limit, 3));
        int commands = below(20);
        for (int i = 0; i < commands; i++) {
            switch (below(6)) {
                case 0 -> s.append('d').append(Due.digits(1 + below(999), 3));
                case 1 -> s.append('d').append(Due.digits(1 + below(30), 3));
                case 2 -> s.append('c').append(Due.digits(1 + below(below(2) == 0 ? 36 : 5), 2)).append(below(3));
                case 3 -> s.append('s');
                case 4 -> s.append('m').append(below(10)).append(below(10));
                default -> s.append('r').append(Due.digits(below(n), 2));
            }
        }
        if (below(4) == 0) {
            s.setCharAt(below(s.length()), "Odcsmr0123456789 \u00ff".charAt(below(18)));
        }
        if (below(6) == 0) {
            s.setLength(below(s.length()) + 1);
        }
        return s.toString();
    }

    private void newText() {
        same("clearText()", ring::clearText, model::clearText);
        String s = story();
        for (int i = 0; i < s.length(); i++) {
            int c = s.charAt(i);
            same("append(" + c + ")", () -> ring.append(c), () -> model.append(c));
        }
        same("errorPosition()", ring::errorPosition, model::errorPosition);
        same("load()", ring::load, model::load);
    }

    private long script(int n) {
        long all = 0;
        for (int i = 0; i < n; i++) {
            int group = below(10000);
            switch (below(12)) {
                case 0 -> group = 1000 + below(40);
                case 1 -> group = 2000 + 10 * below(10) + below(4);
                case 2 -> group = 3000;
                case 3 -> group = 4000 + 10 * below(100);
                case 4 -> group = 5000 + below(200);
                case 5 -> group = 6000 + below(12);
                case 6 -> group = 7000 + 100 * below(6);
                case 7 -> group = 8000 + below(20);
                case 8 -> group = 9000 + 100 * below(6);
                case 9 -> group = 1000 + below(1000);
                default -> { }
            }
            all = all * 10000 + group;
        }
        return below(30) == 0 ? all * 10 : below(30) == 0 ? -all : all;
    }

    private void anyCall() {
        int slot = from(-1, 4);
        int kind = from(0, 3);
        int part = from(0, 3);
        int n = from(1, below(2) == 0 ? 5 : 36);
        int cutKind = from(0, 2);
        switch (below(34)) {
            case 0, 1, 2, 3, 4, 5 -> {
                int tenths = from(1, below(3) == 0 ? 60 : 12);
                same("drive(" + tenths + ")", () -> ring.drive(tenths), () -> model.drive(tenths));
            }
            case 6, 7, 8, 9 -> same("cut(" + n + ", " + cutKind + ")", () -> ring.cut(n, cutKind), () -> model.cut(n, cutKind));
            case 10, 11, 12 -> same("start()", ring::start, model::start);
            case 13, 14 -> same("service(" + kind + ", " + part + ")", () -> ring.service(kind, part), () -> model.service(kind, part));
            case 15 -> same("forget(" + kind + ", " + part + ")", () -> ring.forget(kind, part), () -> model.forget(kind, part));
            case 16 -> {
                int step = from(1, 12);
                same("setStep(" + step + ")", () -> ring.setStep(step), () -> model.setStep(step));
            }
            case 17 -> same("replace(" + slot + ")", () -> ring.replace(slot), () -> model.replace(slot));
            case 18, 19 -> same("undo()", ring::undo, model::undo);
            case 20 -> same("afterCut(" + n + ", " + cutKind + ")", () -> ring.afterCut(n, cutKind), () -> model.afterCut(n, cutKind));
            case 21 -> same("worstLoss()", ring::worstLoss, model::worstLoss);
            case 22 -> {
                int step = from(1, 99);
                same("lasts(" + step + ")", () -> ring.lasts(step), () -> model.lasts(step));
            }
            case 23 -> {
                int interval = from(1, 9999);
                same("dueIn(" + kind + ", " + part + ", " + interval + ")", () -> ring.dueIn(kind, part, interval),
                    () -> model.dueIn(kind, part, interval));
            }
            case 24 -> same("dueFirst()", ring::dueFirst, model::dueFirst);
            case 25, 26 -> {
                int groups = from(1, 4);
                long script = script(Math.max(1, Math.min(4, groups)));
                same("runScript(" + groups + ", " + script + ")", () -> ring.runScript(groups, script), () -> model.runScript(groups, script));
            }
            case 27 -> {
                long start = below(3) == 0 ? below(100) - 50 : seed;
                int rounds = from(1, 99);
                same("simulate(" + start + ", " + rounds + ")", () -> ring.simulate(start, rounds), () -> model.simulate(start, rounds));
            }
            case 28 -> {
                int save = from(0, 1);
                same("save(" + save + ")", () -> ring.save(save), () -> model.save(save));
            }
            case 29 -> {
                int save = from(0, 1);
                same("restore(" + save + ")", () -> ring.restore(save), () -> model.restore(save));
            }
            case 30 -> {
                if (below(10) == 0) {
                    newText();
                } else {
                    int c = from(0, 255);
                    same("append(" + c + ")", () -> ring.append(c), () -> model.append(c));
                    same("errorPosition()", ring::errorPosition, model::errorPosition);
                    same("load()", ring::load, model::load);
                }
            }
            default -> look();
        }
    }

    private void look() {
        int slot = from(0, 11);
        int i = from(0, 2);
        int what = from(0, 2);
        int about = from(0, 14);
        same("about(" + about + ")", () -> ring.about(about), () -> model.about(about));
        same("cell(" + slot + ", " + i + ", " + what + ")", () -> ring.cell(slot, i, what), () -> model.cell(slot, i, what));
        same("says(" + slot + ")", () -> ring.says(slot), () -> model.says(slot));
        same("whySilent(" + slot + ")", () -> ring.whySilent(slot), () -> model.whySilent(slot));
        same("share(" + slot + ")", () -> ring.share(slot), () -> model.share(slot));
        same("serviceAt(" + i + ", " + what + ")", () -> ring.serviceAt(i, what), () -> model.serviceAt(i, what));
        same("lastCut(" + i + ")", () -> ring.lastCut(i), () -> model.lastCut(i));
    }

    private void lookAtAll() {
        for (int k = 0; k <= 14; k++) {
            int what = k;
            same("about(" + what + ")", () -> ring.about(what), () -> model.about(what));
        }
        for (int k = 0; k <= 3; k++) {
            int what = k;
            same("lastCut(" + what + ")", () -> ring.lastCut(what), () -> model.lastCut(what));
        }
        for (int s = 0; s < model.about(0); s++) {
            int slot = s;
            same("says(" + slot + ")", () -> ring.says(slot), () -> model.says(slot));
            same("whySilent(" + slot + ")", () -> ring.whySilent(slot), () -> model.whySilent(slot));
            same("share(" + slot + ")", () -> ring.share(slot), () -> model.share(slot));
            for (int k = 0; k < 9; k++) {
                int i = k / 3;
                int what = k % 3;
                same("cell(" + slot + ", " + i + ", " + what + ")", () -> ring.cell(slot, i, what), () -> model.cell(slot, i, what));
            }
        }
        for (int k = 0; k < 39; k++) {
            int i = k / 3;
            int what = k % 3;
            same("serviceAt(" + i + ", " + what + ")", () -> ring.serviceAt(i, what), () -> model.serviceAt(i, what));
        }
    }

    private boolean run(int number) {
        seed = number * 1000003L;
        ring = new OdometerRing();
        model = new Model();
        log = "";
        calls = 0;
        if (number % 5 != 0) {
            newText();
        }
        while (good && calls + CALLS_OF_A_TEXT + CALLS_OF_A_LOOK <= MOST_CALLS) {
            anyCall();
            if (log.length() > 20000) {
                log = ".. " + log.substring(10000);
            }
        }
        if (good) {
            lookAtAll();
        }
        return good;
    }

    public static void main(String[] args) {
        int runs = args.length > 0 ? Integer.parseInt(args[0]) : RUNS;
        ModelTest test = new ModelTest();
        for (int number = 1; number <= runs && test.run(number); number++) { }
        Due.finish();
    }
}
