/** The boundaries that the document names in the promises 6 to 12, "what there is", sentence by sentence. */
public final class LookBoundsTest {
    private static final int NONE = Due.NONE;
    private static final int LEAST = Integer.MIN_VALUE;
    private static final int GREATEST = Integer.MAX_VALUE;

    // ---- about

    private static void whatAbout() {
        Due.sentence("Throws IllegalArgumentException if what is not 0 to 14");
        for (OdometerRing x : new OdometerRing[] {new OdometerRing(), Made.off(), Made.dead()}) {
            for (int what : new int[] {-1, 15, LEAST, GREATEST}) {
                Due.dueArgument("about(" + what + ")", () -> x.about(what));
            }
        }
        Due.due("about(0)", new OdometerRing().about(0), 4);
        Due.due("about(14)", Made.off().about(14), 1);
    }

    private static void aboutWithoutPower() {
        Due.sentence("While the power is off, 4, 6 and 7 are NONE, and 12 is 0");
        int[] off = {4, 10, 100, 0, NONE, 20, NONE, NONE, 5, 1, 0, NONE, 0, 1, 1};
        int[] on = {4, 10, 100, 1, 10, 20, 10, 1, 5, 1, 0, NONE, 0, 1, 1};
        OdometerRing x = Made.off();
        for (int what = 0; what <= 14; what++) {
            Due.due("off: about(" + what + ")", x.about(what), off[what]);
        }
        x.start();
        for (int what = 0; what <= 14; what++) {
            Due.due("on again: about(" + what + ")", x.about(what), on[what]);
        }
        OdometerRing worn = Due.told("O0301010d030c061d001");
        Due.due("worn out, but off", worn.about(12), 0);
    }

    private static void power() {
        Due.sentence("3: 1 if the power is on, 0 if it is off");
        OdometerRing x = new OdometerRing();
        x.cut(1, 0);
        x.drive(9);
        Due.due("before the cut", x.about(3), 1);
        x.drive(1);
        Due.due("behind the cut", x.about(3), 0);
        x.start();
        Due.due("on again", x.about(3), 1);
        Due.due("on and dead", Made.dead().about(3), 1);
    }

    private static void cutThatIsSet() {
        Due.sentence("10: on which of the next writes the cut is set (0 if none is); 11: its kind (NONE if none is set)");
        OdometerRing x = new OdometerRing();
        dueCut("none at first", x, 0, NONE);
        x.cut(36, 0);
        dueCut("the last write, the kind 0", x, 36, 0);
        x.cut(4, 2);
        dueCut("the fourth write, the kind 2", x, 4, 2);
        x.drive(10);
        dueCut("the very next write", x, 1, 2);
        x.drive(10);
        dueCut("none behind it", x, 0, NONE);
        x.start();
        dueCut("none when the power is on again", x, 0, NONE);
        x.undo();
        x.undo();
        dueCut("set again by undo", x, 1, 2);
    }

    private static void dueCut(String when, OdometerRing x, int n, int kind) {
        Due.due(when + ": about(10)", x.about(10), n);
        Due.due(when + ": about(11)", x.about(11), kind);
    }

    private static void deadOrNot() {
        Due.sentence("12: 1 if the memory is dead, 0 if not");
        OdometerRing x = Due.told("O0301010d030");
        Due.due("the last storing", x.about(12), 0);
        x.drive(1);
        Due.due("the first in vain", x.about(12), 1);
        x.undo();
        Due.due("before it", x.about(12), 0);
    }

    private static void wearGap() {
        Due.sentence("13: the greatest wear of a cell less the least");
        Due.due("no cell is worn", new OdometerRing().about(13), 0);
        Due.due("one cell is", Due.told("O0410100c010d010").about(13), 1);
        Due.due("all but one cell are", Due.told("O0410100d030c030d010").about(13), 0);
        Due.due("all but the last cell are", Due.told("O0410100d030c020d010").about(13), 1);
        Due.due("all cells are", Due.told("O0410100d040").about(13), 0);
        Due.due("the slot 0 is new", Due.told("O0410100d090r00").about(13), 3);
        Due.due("the last slot is new", Due.told("O1210100d240r11").about(13), 2);
        Due.due("just the last slot is worn more", Due.told("O0301010d005").about(13), 1);
        Due.due("999 and 0", Due.told("O0301999d999d999d999r01").about(13), 999);
    }

    private static void services() {
        Due.sentence("14: the number of services that are noted");
        OdometerRing x = new OdometerRing();
        Due.due("none", x.about(14), 0);
        for (int part = 0; part < 12; part++) {
            x.service(part / 10, part % 10);
            Due.due("services", x.about(14), part + 1);
        }
        x.service(0, 0);
        Due.due("one of them again", x.about(14), 12);
        for (int part = 11; part >= 0; part--) {
            x.forget(part / 10, part % 10);
            Due.due("services left", x.about(14), part);
        }
    }

    // ---- cell, says, whySilent, share

    private static void noSuchSlot() {
        Due.sentence("Throws IndexOutOfBoundsException if there is no such slot");
        for (int n : new int[] {3, 4, 11, 12}) {
            OdometerRing x = Due.ring(n, 10, 100);
            for (int slot : new int[] {-1, n, LEAST, GREATEST}) {
                Due.dueIndex("cell(" + slot + ", 0, 0)", () -> x.cell(slot, 0, 0));
                Due.dueIndex("says(" + slot + ")", () -> x.says(slot));
                Due.dueIndex("whySilent(" + slot + ")", () -> x.whySilent(slot));
                Due.dueIndex("share(" + slot + ")", () -> x.share(slot));
            }
            for (int slot : new int[] {0, n - 1}) {
                Due.due("cell(" + slot + ", 0, 0)", x.cell(slot, 0, 0), 0);
                Due.due("says(" + slot + ")", x.says(slot), 0);
                Due.due("whySilent(" + slot + ")", x.whySilent(slot), 0);
                Due.due("share(" + slot + ")", x.share(slot), 0);
            }
        }
    }

    private static void noSuchCell() {
        Due.sentence("Throws IndexOutOfBoundsException if there is no such slot or cell");
        OdometerRing x = new OdometerRing();
        for (int i : new int[] {-1, 3, LEAST, GREATEST}) {
            Due.dueIndex("cell(0, " + i + ", 0)", () -> x.cell(0, i, 0));
            Due.dueIndex("cell(3, " + i + ", 0)", () -> x.cell(3, i, 0));
        }
        Due.dueIndex("neither slot nor cell", () -> x.cell(4, 3, 0));
        // The cell behind the last one of a slot is not the first one of the next.
        Due.dueIndex("cell(-1, 3, 0)", () -> x.cell(-1, 3, 0));
        Due.dueIndex("cell(1, -1, 0)", () -> x.cell(1, -1, 0));
        Due.due("cell(3, 2, 0)", x.cell(3, 2, 0), 0);
        Due.sentence("Throws IllegalArgumentException if what is not 0 to 2");
        for (int what : new int[] {-1, 3, LEAST, GREATEST}) {
            Due.dueArgument("cell(0, 0, " + what + ")", () -> x.cell(0, 0, what));
            Due.dueArgument("cell(3, 2, " + what + ")", () -> x.cell(3, 2, what));
            Due.dueArgument("off: cell(3, 2, " + what + ")", () -> Made.off().cell(3, 2, what));
        }
        Due.due("cell(0, 0, 2)", x.cell(0, 0, 2), 0);
    }

    private static void cellWithoutPower() {
        Due.sentence("0: the number that it holds (NONE if it is unreadable); 1: its wear; 2: 1 if it is stuck, 0 if not");
        OdometerRing x = Made.off();
        for (String when : new String[] {"off", "on again"}) {
            Due.due(when + ": a number", x.cell(2, 0, 0), 20);
            Due.due(when + ": unreadable", x.cell(2, 1, 0), NONE);
            Due.due(when + ": not written", x.cell(2, 2, 0), 0);
            Due.due(when + ": the wear of the cut", x.cell(2, 1, 1), 1);
            Due.due(when + ": no wear", x.cell(2, 2, 1), 0);
            Due.due(when + ": not stuck", x.cell(2, 1, 2), 0);
            Due.outcome(x::start);
        }
        Due.sentence("(It can be looked at also while the power is off.)");
        OdometerRing worn = Due.told("O0301010d027c010d001");
        Due.due("off: stuck by the cut", worn.cell(1, 0, 2), 1);
        Due.due("off: not stuck", worn.cell(1, 1, 2), 0);
    }

    private static void saysNothing() {
        Due.sentence("Returns the number that it says; NONE if it says nothing.");
        Due.due("three alike", Due.told("O0410100d010").says(1), 10);
        Due.due("two alike", Due.told("O0410100c031d010").says(1), 10);
        Due.due("two alike, of a slot that was new", Due.told("O0410100c011d010").says(1), 0);
        Due.due("no two alike", Due.told("O0410100c021d010").says(1), NONE);
        Due.due("just two readable, not alike", Made.off().says(2), NONE);
    }

    private static void whySilent() {
        Due.sentence("Returns 0 if it says something; otherwise 1 if fewer than two of its cells are readable, and 2 if no two"
            + " of its readable cells hold the same.");
        dueWhy("three readable, all alike", "O0410100d010", 1, 0);
        dueWhy("three readable, two alike", "O0410100d010c030d010", 2, 0);
        dueWhy("three readable, none alike", "O0399100d999d190c022d099", 1, 2);
        dueWhy("two readable, alike", "O0410100d010c011d010", 2, 0);
        dueWhy("two readable, not alike", "O0410100d010c021d010", 2, 2);
        dueWhy("the last one readable", "O0410100d010c021d010sc011d010", 2, 1);
        dueWhy("the first one readable", "O0310100d010c031d010sd020c021d010", 2, 1);
        dueWhy("none readable", "O0310100d010c031d010sd020c021d010sc011d010", 2, 1);
        dueWhy("a new one", "O0310100", 2, 0);
    }

    private static void dueWhy(String when, String story, int slot, int why) {
        Due.due(when, Due.told(story).whySilent(slot), why);
    }

    private static void share() {
        Due.sentence("Returns 100 * (the wear of its three cells) / (the wear of all cells), rounded down; 0 if no cell is worn.");
        Due.due("no cell is worn", new OdometerRing().share(1), 0);
        Due.due("no cell is worn any more", Due.told("O0410100c011d010sr01").share(1), 0);
        Due.due("one cell is worn", Due.told("O0410100c011d010").share(1), 100);
        Due.due("but of another slot", Due.told("O0410100c011d010").share(2), 0);
        Due.due("a half", Due.told("O0410100d020").share(1), 50);
        Due.due("a third is 33", Due.told("O0410100d030").share(1), 33);
        Due.due("two thirds are 66", Due.told("O0410100d050r03r00").share(1), 66);
        Due.due("1 of 100", Due.told("O0410100d440r01c010d010").share(1), 1);
        Due.due("33 of 100", Due.told("O0410100d440r01c010d010").share(0), 33);
        Due.due("1 of 109", Due.told("O0410100d480r01c010d010").share(1), 0);
        Due.due("2 of 101", Due.told("O0410100d440r01c020d010").share(1), 1);
        Due.due("33 of 101", Due.told("O0410100d440r01c020d010").share(0), 32);
        // The largest memory, worn out: 2,997 of 35,964.
        OdometerRing x = Due.ring(12, 1, 999);
        Due.driveFar(x, 12 * 999);
        Due.due("a twelfth is 8", x.share(11), 8);
    }

    // ---- serviceAt, lastCut

    private static void serviceAt() {
        Due.sentence("Throws IllegalArgumentException if i is negative, or what is not 0 to 2");
        OdometerRing none = new OdometerRing();
        OdometerRing one = Made.off();
        for (OdometerRing x : new OdometerRing[] {none, one}) {
            Due.dueArgument("serviceAt(-1, 0)", () -> x.serviceAt(-1, 0));
            Due.dueArgument("serviceAt(LEAST, 0)", () -> x.serviceAt(LEAST, 0));
            for (int what : new int[] {-1, 3, LEAST, GREATEST}) {
                Due.dueArgument("serviceAt(0, " + what + ")", () -> x.serviceAt(0, what));
                Due.dueArgument("serviceAt(12, " + what + ")", () -> x.serviceAt(12, what));
            }
        }
        Due.due("serviceAt(0, 0)", one.serviceAt(0, 0), 3);
        Due.due("serviceAt(0, 2)", one.serviceAt(0, 2), 15);
        Due.sentence("Returns that number; NONE if there are not so many services.");
        for (int what = 0; what <= 2; what++) {
            Due.due("none is noted", none.serviceAt(0, what), NONE);
            Due.due("one is noted", one.serviceAt(1, what), NONE);
            Due.due("far behind it", one.serviceAt(GREATEST, what), NONE);
        }
        for (int part = 0; part < 12; part++) {
            none.service(part / 10, part % 10);
        }
        Due.due("the last of 12", none.serviceAt(11, 1), 1);
        Due.due("behind the last of 12", none.serviceAt(12, 1), NONE);
        none.forget(0, 0);
        Due.due("the last of 11", none.serviceAt(10, 1), 1);
        Due.due("behind the last of 11", none.serviceAt(11, 1), NONE);
    }

    private static void lastCut() {
        Due.sentence("Throws IllegalArgumentException if what is not 0 to 3");
        for (OdometerRing x : new OdometerRing[] {new OdometerRing(), Made.off()}) {
            for (int what : new int[] {-1, 4, LEAST, GREATEST}) {
                Due.dueArgument("lastCut(" + what + ")", () -> x.lastCut(what));
            }
        }
        Due.sentence("Returns that number; NONE if there was no power cut so far.");
        OdometerRing x = new OdometerRing();
        x.cut(1, 0);
        x.drive(9);
        for (int what = 0; what <= 3; what++) {
            Due.due("set, but not fallen: lastCut(" + what + ")", x.lastCut(what), NONE);
        }
        x.drive(1);
        int[] fallen = {1, 0, 0, 0};
        for (int what = 0; what <= 3; what++) {
            Due.due("fallen: lastCut(" + what + ")", x.lastCut(what), fallen[what]);
        }
        x.undo();
        Due.due("not fallen by undo", x.lastCut(0), NONE);
    }

    private static void triedInVain() {
        Due.sentence("3: how many slots had been tried in vain when the distance was stored then");
        for (int n : new int[] {3, 12}) {
            for (int write = 1; write <= 3 * (n - 1); write++) {
                OdometerRing x = Due.ring(n, 1, 10);
                x.drive(10 * n);
                x.cut(write, 1);
                x.drive(1);
                Due.due("the cut on the write " + write + " of " + n + " slots", x.lastCut(3), (write - 1) / 3);
                Due.due("its slot", x.lastCut(0), (write - 1) / 3 + 1);
                Due.due("its cell", x.lastCut(1), (write - 1) % 3);
            }
        }
        OdometerRing y = Due.told("O0410100d010c051d020");
        Due.due("the second storing, but the first try", y.lastCut(3), 0);
    }

    public static void main(String[] args) {
        whatAbout();
        aboutWithoutPower();
        power();
        cutThatIsSet();
        deadOrNot();
        wearGap();
        services();
        noSuchSlot();
        noSuchCell();
        cellWithoutPower();
        saysNothing();
        whySilent();
        share();
        serviceAt();
        lastCut();
        triedInVain();
        Due.finish();
    }
}
