/** Promises 6 to 12: about, cell, says, whySilent, share, serviceAt, lastCut. */
public final class LookTest {
    private static final int NONE = Due.NONE;

    private static void dueAbout(String when, OdometerRing x, int... all) {
        for (int what = 0; what <= 14; what++) {
            Due.due(when + " about(" + what + ")", x.about(what), all[what]);
        }
    }

    private static void about() {
        OdometerRing x = new OdometerRing();
        x.drive(25);
        dueAbout("driven:", x, 4, 10, 100, 1, 25, 25, 20, 2, 6, 0, 0, NONE, 0, 1, 0);
        x.service(4, 5);
        x.setStep(3);
        x.cut(5, 2);
        dueAbout("a cut is set:", x, 4, 3, 100, 1, 25, 25, 20, 2, 6, 0, 5, 2, 0, 1, 1);
        x.drive(1);
        dueAbout("three writes later:", x, 4, 3, 100, 1, 26, 26, 26, 3, 9, 0, 2, 2, 0, 1, 1);
        x.drive(9);
        dueAbout("cut:", x, 4, 3, 100, 0, NONE, 29, NONE, NONE, 11, 1, 0, NONE, 0, 1, 1);
        x.start();
        dueAbout("on again:", x, 4, 3, 100, 1, 26, 29, 26, 3, 11, 1, 0, NONE, 0, 1, 1);
        x.drive(3);
        dueAbout("stored anew:", x, 4, 3, 100, 1, 29, 32, 29, 0, 14, 1, 0, NONE, 0, 1, 1);
        for (int what : new int[] {-1, 15, 16, Integer.MIN_VALUE, Integer.MAX_VALUE}) {
            Due.dueArgument("about(" + what + ")", () -> x.about(what));
        }
    }

    private static void aboutTheVeryNextWrite() {
        OdometerRing x = new OdometerRing();
        x.cut(4, 2);
        x.drive(10);
        Due.due("a cut on the next write", x.about(10), 1);
        Due.due("its kind", x.about(11), 2);
    }

    private static void aboutDead() {
        OdometerRing x = Due.told("O0301010d030");
        dueAbout("worn out:", x, 3, 1, 10, 1, 30, 30, 30, 0, 90, 0, 0, NONE, 0, 0, 0);
        x.cut(8, 1);
        x.drive(1);
        dueAbout("dead:", x, 3, 1, 10, 1, 31, 31, 30, 0, 96, 0, 2, 1, 1, 0, 0);
        x.drive(5);
        dueAbout("driven when dead:", x, 3, 1, 10, 1, 36, 36, 30, 0, 96, 0, 2, 1, 1, 0, 0);
        x.replace(2);
        Due.due("a new slot: about(12)", x.about(12), 1);
        Due.due("a new slot: about(13)", x.about(13), 10);

        // Cells of slots that are there no more do not count for the wear.
        OdometerRing y = Due.told("O1201010d012");
        Due.due("all 12 alike", y.about(13), 0);
        y.drive(11);
        Due.due("one of 12 less worn", y.about(13), 1);
        Due.write(y, "O0301010d003");
        y.load();
        Due.due("all 3 alike", y.about(13), 0);
        for (int n = 1; n <= 3; n++) {
            OdometerRing few = new OdometerRing();
            few.cut(n, 1);
            few.drive(10);
            Due.due("a slot half worn", few.about(13), 1);
        }
        OdometerRing most = Due.told("O0301999d999d999d999r01");
        Due.due("the greatest difference", most.about(13), 999);
    }

    private static void cell() {
        OdometerRing x = new OdometerRing();
        x.drive(10);
        Due.due("a written cell", x.cell(1, 2, 0), 10);
        Due.due("its wear", x.cell(1, 2, 1), 1);
        Due.due("it is not stuck", x.cell(1, 2, 2), 0);
        Due.due("a cell not written", x.cell(3, 0, 0), 0);
        x.cut(2, 1);
        x.drive(10);
        Due.due("before the cut", x.cell(2, 0, 0), 20);
        Due.due("an unreadable cell, the power off", x.cell(2, 1, 0), NONE);
        Due.due("its wear", x.cell(2, 1, 1), 1);
        Due.due("behind the cut", x.cell(2, 2, 0), 0);
        Due.due("its wear", x.cell(2, 2, 1), 0);
        int[] wrong = {-1, 4, 12, Integer.MIN_VALUE, Integer.MAX_VALUE};
        for (int slot : wrong) {
            Due.dueIndex("cell(" + slot + ", 0, 0)", () -> x.cell(slot, 0, 0));
            Due.dueIndex("cell(" + slot + ", 0, 9)", () -> x.cell(slot, 0, 9));
        }
        for (int i : new int[] {-1, 3, Integer.MIN_VALUE, Integer.MAX_VALUE}) {
            Due.dueIndex("cell(0, " + i + ", 0)", () -> x.cell(0, i, 0));
            Due.dueIndex("cell(0, " + i + ", -1)", () -> x.cell(0, i, -1));
            Due.dueArgument("cell(0, 0, " + i + ")", () -> x.cell(0, 0, i));
        }

        OdometerRing y = Due.told("O0301010d028");
        Due.due("wear 9", y.cell(2, 0, 1), 9);
        Due.due("is not stuck", y.cell(2, 0, 2), 0);
        Due.due("wear 10", y.cell(1, 0, 1), 10);
        Due.due("is stuck", y.cell(1, 0, 2), 1);
        y.drive(3);
        Due.due("a stuck cell stays", y.cell(1, 0, 0), 28);
        Due.due("and its wear", y.cell(1, 0, 1), 10);
    }

    private static void cutKinds() {
        for (int kind = 0; kind < 3; kind++) {
            OdometerRing x = new OdometerRing();
            x.setStep(99);
            x.drive(999);
            x.drive(233);
            x.setStep(1);
            x.drive(1);
            Due.due("stored in slot 1", x.says(1), 1233);
            Due.due("held before", x.cell(2, 0, 0), 990);
            x.cut(1, kind);
            x.drive(1);
            int[] left = {990, NONE, 1200};
            Due.due("left by the kind " + kind, x.cell(2, 0, 0), left[kind]);
            Due.due("worn by the kind " + kind, x.cell(2, 0, 1), 4);
        }
        OdometerRing x = new OdometerRing();
        x.setStep(77);
        x.drive(500);
        x.cut(1, 2);
        x.drive(77);
        Due.due("539 by the kind 2", x.cell(3, 0, 0), 500);
        OdometerRing y = Due.told("O0310010d031");
        y.cut(1, 2);
        y.setStep(46);
        y.drive(46);
        Due.due("76 by the kind 2 over 10", y.cell(1, 0, 0), 0);
        Due.due("beside it", y.cell(1, 1, 0), 10);
    }

    private static void saysAndWhySilent() {
        OdometerRing x = new OdometerRing();
        x.drive(10);
        Due.due("says(1)", x.says(1), 10);
        Due.due("whySilent(1)", x.whySilent(1), 0);
        x.cut(2, 1);
        x.drive(10);
        Due.due("20, unreadable, 0", x.says(2), NONE);
        Due.due("no two the same", x.whySilent(2), 2);
        x.start();
        x.cut(1, 1);
        x.drive(10);
        Due.due("unreadable, unreadable, 0", x.says(2), NONE);
        Due.due("fewer than two readable", x.whySilent(2), 1);
        x.start();
        x.cut(2, 0);
        x.drive(10);
        Due.due("left unreadable by the kind 0", x.cell(2, 1, 0), NONE);
        Due.due("20, unreadable, 0 again", x.whySilent(2), 2);
        x.start();
        x.cut(1, 0);
        x.drive(10);
        x.start();
        x.cut(3, 1);
        x.drive(10);
        Due.due("20, 20, unreadable", x.says(2), 20);
        Due.due("is believed", x.whySilent(2), 0);
        Due.due("and told", x.start(), 20);
        x.cut(2, 2);
        x.drive(10);
        Due.due("30, 0, 0", x.says(3), 0);
        Due.due("is believed too", x.whySilent(3), 0);
        for (int slot : new int[] {-1, 4, 5, Integer.MIN_VALUE, Integer.MAX_VALUE}) {
            Due.dueIndex("says(" + slot + ")", () -> x.says(slot));
            Due.dueIndex("whySilent(" + slot + ")", () -> x.whySilent(slot));
            Due.dueIndex("share(" + slot + ")", () -> x.share(slot));
        }

        // Three readable cells, no two the same; then the first and the last alike, with another between.
        OdometerRing y = new OdometerRing();
        y.setStep(99);
        y.drive(999);
        y.drive(190);
        Due.due("slot 1 before", y.says(1), 891);
        y.cut(2, 2);
        y.drive(99);
        Due.due("1287, 1200, 891: why", y.whySilent(1), 2);
        Due.due("first", y.cell(1, 0, 0), 1287);
        Due.due("second", y.cell(1, 1, 0), 1200);
        Due.due("third", y.cell(1, 2, 0), 891);
        Due.due("says", y.says(1), NONE);
        y.start();
        y.cut(1, 2);
        y.drive(99);
        Due.due("1200, 1200, 891", y.says(1), 1200);
        Due.due("believed", y.whySilent(1), 0);
        Due.due("told", y.start(), 1200);
        Due.due("the current slot", y.about(7), 1);

        // A cell that was stuck by the cut is outvoted by the other two.
        String[] stuck = {"c010", "c011", "c020", "c021", "c030", "c031"};
        int[] held = {25, NONE, 25, NONE, 25, NONE};
        for (int k = 0; k < stuck.length; k++) {
            OdometerRing z = Due.told("O0301010d027" + stuck[k] + "d001sd001");
            Due.due(stuck[k] + ": the stuck cell", z.cell(1, k / 2, 0), held[k]);
            Due.due(stuck[k] + ": is stuck", z.cell(1, k / 2, 2), 1);
            Due.due(stuck[k] + ": says(1)", z.says(1), 28);
            Due.due(stuck[k] + ": whySilent(1)", z.whySilent(1), 0);
        }
    }

    private static void share() {
        OdometerRing x = new OdometerRing();
        Due.due("no cell is worn", x.share(0), 0);
        x.drive(10);
        Due.due("all of it", x.share(1), 100);
        Due.due("none of it", x.share(2), 0);
        x.drive(20);
        Due.due("a third, rounded down", x.share(3), 33);
        x.drive(20);
        Due.due("6 of 15", x.share(1), 40);
        Due.due("3 of 15", x.share(0), 20);
        x.replace(0);
        x.replace(3);
        Due.due("two thirds, rounded down", x.share(1), 66);
        Due.due("a third", x.share(2), 33);
        Due.due("a new slot", x.share(3), 0);
        x.cut(1, 0);
        x.drive(10);
        Due.due("4 of 10, the power off", x.share(2), 40);
        int[] own = {10, 18, 25};
        int[] other = {30, 27, 25};
        for (int n = 1; n <= 3; n++) {
            OdometerRing y = new OdometerRing();
            y.drive(30);
            y.cut(n, 2);
            y.drive(10);
            Due.due("worn in part", y.share(0), own[n - 1]);
            Due.due("beside it", y.share(2), other[n - 1]);
        }
        OdometerRing z = new OdometerRing();
        z.drive(49);
        z.replace(1);
        z.cut(2, 0);
        z.drive(1);
        Due.due("2 of 11", z.share(1), 18);
    }

    private static void serviceAt() {
        OdometerRing x = new OdometerRing();
        x.service(3, 7);
        x.drive(15);
        x.service(0, 9);
        x.drive(1);
        x.service(9, 0);
        int[][] due = {{3, 7, 0}, {0, 9, 15}, {9, 0, 16}};
        for (int i = 0; i < 3; i++) {
            for (int what = 0; what < 3; what++) {
                Due.due("serviceAt(" + i + ", " + what + ")", x.serviceAt(i, what), due[i][what]);
            }
        }
        Due.due("no fourth", x.serviceAt(3, 0), NONE);
        Due.due("none so far behind", x.serviceAt(Integer.MAX_VALUE, 2), NONE);
        Due.due("not even 12", x.serviceAt(12, 1), NONE);
        x.drive(4);
        x.service(3, 7);
        Due.due("done again: the first now", x.serviceAt(0, 1), 9);
        Due.due("the second now", x.serviceAt(1, 0), 9);
        Due.due("the last now", x.serviceAt(2, 1), 7);
        Due.due("its distance", x.serviceAt(2, 2), 20);
        for (int i : new int[] {-1, Integer.MIN_VALUE}) {
            Due.dueArgument("serviceAt(" + i + ", 0)", () -> x.serviceAt(i, 0));
        }
        for (int what : new int[] {-1, 3, Integer.MIN_VALUE, Integer.MAX_VALUE}) {
            Due.dueArgument("serviceAt(0, " + what + ")", () -> x.serviceAt(0, what));
            Due.dueArgument("serviceAt(99, " + what + ")", () -> x.serviceAt(99, what));
        }
        x.cut(1, 1);
        x.drive(99);
        Due.due("also while the power is off", x.serviceAt(2, 2), 20);
    }

    private static void lastCut() {
        OdometerRing x = new OdometerRing();
        x.cut(6, 2);
        Due.due("set, but not yet fallen", x.lastCut(2), NONE);
        x.drive(99);
        int[] due = {2, 2, 2, 0};
        for (int what = 0; what < 4; what++) {
            Due.due("lastCut(" + what + ")", x.lastCut(what), due[what]);
        }
        x.start();
        x.cut(1, 0);
        Due.due("the latest that fell", x.lastCut(2), 2);
        x.drive(99);
        int[] next = {3, 0, 0, 0};
        for (int what = 0; what < 4; what++) {
            Due.due("then lastCut(" + what + ")", x.lastCut(what), next[what]);
        }
        for (int what : new int[] {-1, 4, Integer.MIN_VALUE, Integer.MAX_VALUE}) {
            Due.dueArgument("lastCut(" + what + ")", () -> x.lastCut(what));
        }
        OdometerRing y = Due.told("O0501010d050c111d001");
        int[] tried = {4, 1, 1, 3};
        for (int what = 0; what < 4; what++) {
            Due.due("tried in vain: lastCut(" + what + ")", y.lastCut(what), tried[what]);
        }
        Due.due("a stuck cell stays as it is", y.cell(4, 1, 0), 49);
        Due.due("with its wear", y.cell(4, 1, 1), 10);
        Due.due("and its number is told", y.start(), 50);
    }

    public static void main(String[] args) {
        about();
        aboutTheVeryNextWrite();
        aboutDead();
        cell();
        cutKinds();
        saysAndWhySilent();
        share();
        serviceAt();
        lastCut();
        Due.finish();
    }
}
