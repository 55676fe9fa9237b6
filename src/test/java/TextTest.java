/** Promises 1 to 5: a new object, append, clearText, errorPosition, load. */
public final class TextTest {
    private static final int NONE = Due.NONE;

    private static void dueNew(String when, OdometerRing x, int n, int step, int limit) {
        int[] about = {n, step, limit, 1, 0, 0, 0, 0, 0, 0, 0, NONE, 0, 0, 0};
        for (int what = 0; what < about.length; what++) {
            Due.due(when + " about(" + what + ")", x.about(what), about[what]);
        }
        for (int slot = 0; slot < n; slot++) {
            for (int i = 0; i < 3; i++) {
                for (int what = 0; what < 3; what++) {
                    Due.due(when + " cell(" + slot + ", " + i + ", " + what + ")", x.cell(slot, i, what), 0);
                }
            }
            Due.due(when + " says(" + slot + ")", x.says(slot), 0);
            Due.due(when + " whySilent(" + slot + ")", x.whySilent(slot), 0);
            Due.due(when + " share(" + slot + ")", x.share(slot), 0);
        }
        Due.dueIndex(when + " says(" + n + ")", () -> x.says(n));
        for (int what = 0; what < 4; what++) {
            Due.due(when + " lastCut(" + what + ")", x.lastCut(what), NONE);
        }
        for (int what = 0; what < 3; what++) {
            Due.due(when + " serviceAt(0, " + what + ")", x.serviceAt(0, what), NONE);
        }
        Due.due(when + " dueFirst()", x.dueFirst(), NONE);
        Due.dueState(when + " undo()", x::undo);
        Due.dueState(when + " restore(0)", () -> x.restore(0));
        Due.dueState(when + " restore(1)", () -> x.restore(1));
        Due.dueState(when + " start()", x::start);
    }

    private static void newObject() {
        OdometerRing x = new OdometerRing();
        dueNew("new:", x, 4, 10, 100);
        Due.due("new: errorPosition()", x.errorPosition(), 0);
        Due.dueState("new: load()", x::load);
        Due.due("new: clearText()", x.clearText(), 0);
        OdometerRing other = new OdometerRing();
        other.append('O');
        other.drive(30);
        other.service(1, 1);
        other.save(0);
        dueNew("beside another:", x, 4, 10, 100);
        Due.due("beside another: clearText()", x.clearText(), 0);
    }

    private static void append() {
        OdometerRing x = new OdometerRing();
        int[] wrong = {-1, 256, 1000, Integer.MIN_VALUE, Integer.MAX_VALUE};
        for (int c : wrong) {
            Due.dueArgument("append(" + c + ")", () -> x.append(c));
        }
        Due.due("append(0)", x.append(0), 1);
        Due.due("append(255)", x.append(255), 2);
        for (int length = 3; length <= 90; length++) {
            Due.due("append", x.append('s'), length);
        }
        Due.dueState("append to 90", () -> x.append('s'));
        Due.dueArgument("append(256) to 90", () -> x.append(256));
        Due.dueArgument("append(-1) to 90", () -> x.append(-1));
        Due.due("length after the exceptions", x.clearText(), 90);
    }

    private static void clearText() {
        OdometerRing x = new OdometerRing();
        Due.due("clearText()", x.clearText(), 0);
        Due.write(x, "O0401010");
        Due.due("clearText() of 8", x.clearText(), 8);
        Due.due("clearText() again", x.clearText(), 0);
        Due.due("errorPosition() after it", x.errorPosition(), 0);
        Due.dueState("load() after it", x::load);
        Due.due("append after it", x.append('O'), 1);
        x.drive(10);
        x.clearText();
        Due.due("the state stays", x.about(4), 10);
        Due.due("the remembered states stay", x.undo(), 0);
    }

    private static void dueError(String text, int position) {
        OdometerRing x = new OdometerRing();
        Due.write(x, text);
        Due.due("errorPosition() of " + text, x.errorPosition(), position);
        Due.due("errorPosition() again of " + text, x.errorPosition(), position);
        if (position != NONE) {
            x.drive(12);
            Due.dueState("load() of " + text, x::load);
            Due.due("after no load of " + text, x.about(4), 12);
            Due.due("undo() after no load of " + text, x.undo(), 0);
        }
        Due.due("length of " + text, x.clearText(), text.length());
    }

    private static void heads() {
        String[] stories = {"O0301010", "O1299999", "O0410100", "O0910011", "O1009090", "O1190500"};
        for (String story : stories) {
            dueError(story, NONE);
            for (int length = 0; length < story.length(); length++) {
                dueError(story.substring(0, length), length);
            }
        }
        dueError("o0401010", 0);
        dueError("00401010", 0);
        dueError(" O0401010", 0);
        dueError("O2", 1);
        dueError("O9401010", 1);
        dueError("O0001010", 2);
        dueError("O0201010", 2);
        dueError("O1301010", 2);
        dueError("O1:01010", 2);
        dueError("O/401010", 1);
        dueError("Os", 1);
        dueError("O0400100", 4);
        dueError("O04x1010", 3);
        dueError("O040s010", 4);
        dueError("O0401009", 6);
        dueError("O0401000", 6);
        dueError("O0401s10", 5);
        dueError("O040101 ", 7);
        dueError("O0401010O", 8);
        dueError("O04010100", 8);
        dueError("O0401010 ", 8);
        dueError("O0401010\u0000", 8);
        dueError("O0401010\u00ff", 8);
    }

    private static void commands() {
        String head = "O0401010";
        String[] good = {
            "d001", "d999", "d010", "d100", "c010", "c011", "c012", "c102", "c300", "c362", "s", "ss", "m00", "m99", "m09",
            "r00", "r03", "d001c010sm00r00", "sd001"
        };
        for (String command : good) {
            dueError(head + command, NONE);
        }
        dueError(head + "d", 9);
        dueError(head + "d0", 10);
        dueError(head + "d00", 11);
        dueError(head + "d000", 11);
        dueError(head + "d12s", 11);
        dueError(head + "d0010", 12);
        dueError(head + "c", 9);
        dueError(head + "c0", 10);
        dueError(head + "c00", 10);
        dueError(head + "c01", 11);
        dueError(head + "c013", 11);
        dueError(head + "c370", 10);
        dueError(head + "c40", 9);
        dueError(head + "c36s", 11);
        dueError(head + "m", 9);
        dueError(head + "m1", 10);
        dueError(head + "m1s", 10);
        dueError(head + "mm", 9);
        dueError(head + "r", 9);
        dueError(head + "r0", 10);
        dueError(head + "r04", 10);
        dueError(head + "r1", 9);
        dueError(head + "x", 8);
        dueError(head + "D001", 8);
        dueError(head + "sS", 9);
        dueError("O0301010r02", NONE);
        dueError("O0301010r03", 10);
        dueError("O1001010r09", NONE);
        dueError("O1001010r10", 9);
        dueError("O1101010r10", NONE);
        dueError("O1101010r11", 10);
        dueError("O1201010r11", NONE);
        dueError("O1201010r12", 10);
        dueError("O1201010r2", 9);
        dueError("O1201010r09r00", NONE);
        dueError(head + "s".repeat(82), NONE);
        dueError(head + "s".repeat(81) + "d", 90);
        dueError(head + "s".repeat(81) + "x", 89);
    }

    private static void load() {
        OdometerRing x = new OdometerRing();
        x.drive(45);
        x.service(2, 3);
        x.cut(1, 1);
        x.drive(99);
        x.save(0);
        x.save(1);
        Due.write(x, "O0501010");
        Due.due("load()", x.load(), 0);
        dueNew("loaded:", x, 5, 1, 10);
        Due.due("the text stays", x.errorPosition(), NONE);
        x.drive(3);
        Due.due("load() again", x.load(), 0);
        dueNew("loaded again:", x, 5, 1, 10);
        Due.due("the length stays", x.clearText(), 8);
        dueNew("loaded greatest:", Due.told("O1299999"), 12, 99, 999);
        OdometerRing y = Due.told("O0301010");
        dueNew("loaded smallest:", y, 3, 1, 10);
        y.drive(31);
        y.cut(9, 2);
        y.service(0, 0);
        Due.due("dead", y.about(12), 1);
        y.load();
        dueNew("loaded over a dead one:", y, 3, 1, 10);
    }

    private static void loadCommands() {
        OdometerRing x = Due.told("O0410100d025m12c021d007");
        Due.due("load distance", x.about(4), 32 - 32 + NONE);
        Due.due("load travelled", x.about(5), 30);
        Due.due("load power", x.about(3), 0);
        Due.due("load cuts", x.about(9), 1);
        Due.due("load last cut", x.lastCut(0), 3);
        Due.due("load last cell", x.lastCut(1), 1);
        Due.due("load service", x.serviceAt(0, 2), 25);
        Due.dueState("no action is remembered", x::undo);
        Due.due("start after load", x.start(), 20);
        Due.due("undo of it", x.undo(), 0);

        OdometerRing y = new OdometerRing();
        Due.write(y, "O0410100s");
        Due.due("start is left out while the power is on", y.load(), 1);
        Due.write(y, "O0410100r00r01r03");
        Due.due("replace of the current slot is left out", y.load(), 1);
        Due.write(y, "O0410100c010d010d001c010m00r01sr00r01");
        Due.due("four without power and one at the current slot", y.load(), 5);
        Due.due("and the rest is done", y.about(3), 1);
        Due.due("and the cut", y.about(9), 1);
        Due.due("travelled", y.about(5), 10);
        Due.write(y, "O0410100m00m01m02m03m04m05m06m07m08m09m10m11m12m00");
        Due.due("the 13th service is left out", y.load(), 1);
        Due.due("12 services", y.about(14), 12);
        Due.due("the last", y.serviceAt(11, 1), 0);
        Due.due("the first", y.serviceAt(0, 1), 1);
        Due.write(y, "O0410100d030r02");
        Due.due("replace is done", y.load(), 0);
        Due.due("slot 2 is new", y.says(2), 0);
        Due.due("slot 1 is not", y.says(1), 10);
        Due.write(y, "O0410100c052c031");
        Due.due("two cuts", y.load(), 0);
        Due.due("the second counts", y.about(10), 3);
        Due.due("its kind", y.about(11), 1);
        Due.write(y, "O04101002");
        Due.dueState("no story", y::load);
        Due.due("nothing changed", y.about(10), 3);
    }

    public static void main(String[] args) {
        newObject();
        append();
        clearText();
        heads();
        commands();
        load();
        loadCommands();
        Due.finish();
    }
}
