/** The boundaries that the document names in "SERVICES" and in the promises 13 to 19, sentence by sentence. */
public final class ActionBoundsTest {
    private static final int NONE = Due.NONE;
    private static final int LEAST = Integer.MIN_VALUE;
    private static final int GREATEST = Integer.MAX_VALUE;

    /** The services 0, 0 to 1, 1, which are 12. */
    private static OdometerRing twelve() {
        return Due.told("O0410100m00m01m02m03m04m05m06m07m08m09m10m11");
    }

    // ---- services

    private static void kindsAndParts() {
        Due.sentence("A service has a kind from 0 to 9 and a part from 0 to 9.");
        for (int kind = 0; kind <= 9; kind++) {
            for (int part = 0; part <= 9; part++) {
                OdometerRing x = new OdometerRing();
                x.drive(7);
                String what = "service(" + kind + ", " + part + ")";
                Due.due(what, x.service(kind, part), NONE);
                Due.due(what + ": its kind", x.serviceAt(0, 0), kind);
                Due.due(what + ": its part", x.serviceAt(0, 1), part);
                Due.due(what + " again", x.service(kind, part), 0);
                Due.due(what + " is due", x.dueIn(kind, part, 1), 1);
                Due.due(what + " is due first", x.dueFirst(), 10 * kind + part);
                Due.due(what + " is forgotten", x.forget(kind, part), 7);
            }
        }
        Due.sentence("Throws IllegalArgumentException if kind or part is out of range");
        for (int wrong : new int[] {-1, 10, LEAST, GREATEST}) {
            for (OdometerRing x : new OdometerRing[] {new OdometerRing(), Made.off(), Made.dead(), twelve()}) {
                Due.dueArgument("service(" + wrong + ", 0)", () -> x.service(wrong, 0));
                Due.dueArgument("service(9, " + wrong + ")", () -> x.service(9, wrong));
                Due.dueArgument("forget(" + wrong + ", 0)", () -> x.forget(wrong, 0));
                Due.dueArgument("forget(9, " + wrong + ")", () -> x.forget(9, wrong));
            }
        }
        // 10 * kind + part would be a service that is noted.
        Due.dueArgument("service(0, 11)", () -> twelve().service(0, 11));
        Due.dueArgument("forget(0, 11)", () -> twelve().forget(0, 11));
        Due.dueArgument("forget(2, -9)", () -> twelve().forget(2, -9));
    }

    private static void inPlaceOfTheOther() {
        Due.sentence("the distance is noted for this kind and part, in place of the one that was noted before");
        OdometerRing x = new OdometerRing();
        x.drive(7);
        x.service(1, 2);
        x.service(2, 1);
        Due.due("two are noted", x.about(14), 2);
        x.drive(6);
        x.service(1, 2);
        Due.due("two still", x.about(14), 2);
        Due.due("the other stays", x.serviceAt(0, 2), 7);
        Due.due("the one in its place", x.serviceAt(1, 2), 13);
    }

    private static void atMostTwelve() {
        Due.sentence("at most 12 services are noted.");
        OdometerRing x = new OdometerRing();
        for (int k = 0; k < 12; k++) {
            Due.due("the service " + (k + 1), x.service(k / 10, k % 10), NONE);
        }
        Due.sentence("Throws IllegalStateException if the power is off, or if it is not noted yet and there are 12 services");
        Due.dueState("a 13th", () -> x.service(1, 2));
        Due.dueState("the last one as a 13th", () -> x.service(9, 9));
        Due.due("the first one again", x.service(0, 0), 0);
        Due.due("the last one again", x.service(1, 1), 0);
        Due.due("12 are noted", x.about(14), 12);
        x.forget(0, 5);
        Due.due("one that is noted with 11", x.service(0, 0), 0);
        Due.due("a 12th in place of the one that was forgotten", x.service(1, 2), NONE);
        Due.dueState("a 13th again", () -> x.service(0, 5));
        OdometerRing off = Made.off();
        Due.dueState("one that is noted, without power", () -> off.service(3, 5));
        Due.dueState("one that is not, without power", () -> off.service(3, 6));
        off.start();
        Due.due("with power", off.service(3, 5), -5);
        Due.due("on a dead memory", Made.dead().service(3, 6), NONE);
    }

    private static void dueOrder(String when, OdometerRing x, int... codes) {
        Due.due(when + ": services", x.about(14), codes.length);
        for (int i = 0; i < codes.length; i++) {
            Due.due(when + ": the service " + i, 10 * x.serviceAt(i, 0) + x.serviceAt(i, 1), codes[i]);
        }
    }

    private static void order() {
        Due.sentence("They are kept in the order in which they were done the last time.");
        OdometerRing x = twelve();
        dueOrder("as they were done", x, 0, 1, 2, 3, 4, 5, 6, 7, 8, 9, 10, 11);
        x.service(1, 1);
        dueOrder("the last one again", x, 0, 1, 2, 3, 4, 5, 6, 7, 8, 9, 10, 11);
        x.service(0, 0);
        dueOrder("the first one again", x, 1, 2, 3, 4, 5, 6, 7, 8, 9, 10, 11, 0);
        x.service(0, 6);
        dueOrder("one between them again", x, 1, 2, 3, 4, 5, 7, 8, 9, 10, 11, 0, 6);
        x.forget(0, 1);
        dueOrder("without the first one", x, 2, 3, 4, 5, 7, 8, 9, 10, 11, 0, 6);
        x.forget(0, 6);
        dueOrder("without the last one", x, 2, 3, 4, 5, 7, 8, 9, 10, 11, 0);
        x.forget(0, 8);
        dueOrder("without one between them", x, 2, 3, 4, 5, 7, 9, 10, 11, 0);
        x.service(0, 1);
        dueOrder("done again, it is the last", x, 2, 3, 4, 5, 7, 9, 10, 11, 0, 1);
    }

    private static void sinceThen() {
        Due.sentence("Returns the distance less the one that was noted for this service before; NONE if none was.");
        OdometerRing x = new OdometerRing();
        Due.due("none was", x.service(0, 0), NONE);
        Due.due("noted at 0", x.service(0, 0), 0);
        x.drive(19);
        Due.due("19 later", x.service(0, 0), 19);
        x.service(1, 1);
        x.cut(1, 0);
        x.drive(1);
        x.start();
        Due.due("told less than noted", x.service(0, 0), -9);
        x.forget(1, 1);
        Due.due("none any more", x.service(1, 1), NONE);
    }

    private static void forget() {
        Due.sentence("Returns the distance that was noted for it.");
        Due.due("also while the power is off", Made.off().forget(3, 5), 15);
        Due.due("also on a dead memory", Made.dead().forget(3, 5), 0);
        Due.sentence("Throws IllegalStateException if it is not noted");
        OdometerRing x = Made.off();
        Due.dueState("another part", () -> x.forget(3, 4));
        Due.dueState("another kind", () -> x.forget(5, 5));
        Due.dueState("kind and part the other way round", () -> x.forget(5, 3));
        x.forget(3, 5);
        Due.dueState("forgotten already", () -> x.forget(3, 5));
        Due.dueState("none was noted", () -> new OdometerRing().forget(0, 0));
        OdometerRing y = twelve();
        Due.due("the first of 12", y.forget(0, 0), 0);
        Due.due("the last of 12", y.forget(1, 1), 0);
        Due.dueState("the last of 12 again", () -> y.forget(1, 1));
        Due.due("the last of 10", y.forget(1, 0), 0);
    }

    // ---- drive

    private static void tenths() {
        Due.sentence("tenths: 1 to 999, in tenths of a kilometer");
        for (OdometerRing x : new OdometerRing[] {new OdometerRing(), Made.off(), Made.dead()}) {
            for (int tenths : new int[] {0, -1, 1000, LEAST, GREATEST}) {
                Due.dueArgument("drive(" + tenths + ")", () -> x.drive(tenths));
            }
        }
        OdometerRing x = new OdometerRing();
        Due.due("drive(1)", x.drive(1), 1);
        Due.due("drive(999)", x.drive(999), 999);
        Due.due("travelled", x.about(5), 1000);
        Due.sentence("Throws IllegalArgumentException if tenths is out of range");
        Due.dueArgument("one too few", () -> x.drive(0));
        Due.dueArgument("one too many", () -> x.drive(1000));
        Due.due("nothing was driven", x.about(5), 1000);
        Due.sentence("Throws IllegalStateException if the power is off");
        OdometerRing off = Made.off();
        Due.dueState("drive(1) without power", () -> off.drive(1));
        Due.dueState("drive(999) without power", () -> off.drive(999));
        off.start();
        Due.due("drive(1) with power", off.drive(1), 1);
        Due.due("drive(1) on a dead memory", Made.dead().drive(1), 1);
    }

    private static void asFarAsThePower() {
        Due.sentence("Returns how many of them were driven (that in which the power is cut counts).");
        for (int tenths : new int[] {1, 9, 10, 11, 999}) {
            OdometerRing x = new OdometerRing();
            x.cut(3, 0);
            Due.due("drive(" + tenths + ") to a cut at 10", x.drive(tenths), Math.min(tenths, 10));
            Due.due("the power", x.about(3), tenths < 10 ? 1 : 0);
            Due.due("travelled", x.about(5), Math.min(tenths, 10));
        }
        OdometerRing y = new OdometerRing();
        y.cut(4, 0);
        Due.due("one write behind the first storing", y.drive(999), 20);
        OdometerRing z = new OdometerRing();
        z.setStep(1);
        z.cut(1, 0);
        Due.due("the first tenth", z.drive(999), 1);
        OdometerRing worn = Due.told("O0301010d030c361");
        Due.due("the memory is dead before the cut", worn.drive(999), 999);
        Due.due("the cut stays set behind six writes", worn.about(10), 30);
    }

    // ---- cut, start

    private static void cutRange() {
        Due.sentence("Throws IllegalArgumentException if n or kind is out of range");
        for (OdometerRing x : new OdometerRing[] {new OdometerRing(), Made.off(), Made.dead()}) {
            for (int n : new int[] {0, -1, 37, LEAST, GREATEST}) {
                Due.dueArgument("cut(" + n + ", 0)", () -> x.cut(n, 0));
            }
            for (int kind : new int[] {-1, 3, LEAST, GREATEST}) {
                Due.dueArgument("cut(1, " + kind + ")", () -> x.cut(1, kind));
            }
        }
        OdometerRing x = new OdometerRing();
        Due.due("cut(1, 0)", x.cut(1, 0), 0);
        Due.due("cut(36, 2)", x.cut(36, 2), 1);
        Due.due("cut(1, 2)", x.cut(1, 2), 36);
        Due.dueState("cut(1, 0) without power", () -> Made.off().cut(1, 0));
        Due.dueState("cut(36, 2) without power", () -> Made.off().cut(36, 2));
        Due.due("cut(36, 2) on a dead memory", Made.dead().cut(36, 2), 0);
    }

    private static void cutFromNowOn() {
        Due.sentence("1 to 36: it falls on the n-th write from now on");
        for (int n : new int[] {1, 2, 3, 4, 35, 36}) {
            OdometerRing x = new OdometerRing();
            x.drive(25);
            x.cut(n, 1);
            x.drive(999);
            Due.due("cut(" + n + ", 1) behind 6 writes", x.about(8), 6 + n);
            Due.due("it fell", x.about(9), 1);
        }
        Due.sentence("Sets a power cut, in place of the one that is set.");
        OdometerRing later = new OdometerRing();
        later.cut(1, 0);
        later.cut(36, 2);
        later.drive(10);
        Due.due("the sooner one does not fall", later.about(3), 1);
        later.drive(999);
        Due.due("the later one does", later.about(8), 36);
        Due.due("with its kind", later.lastCut(2), 2);
        OdometerRing sooner = new OdometerRing();
        sooner.cut(36, 2);
        sooner.cut(1, 0);
        sooner.drive(999);
        sooner.start();
        sooner.drive(999);
        Due.due("just the sooner one falls", sooner.about(9), 1);
    }

    private static void cutBefore() {
        Due.sentence("Returns on which write from now on one was set before, as about(10) tells it (0 if none was).");
        OdometerRing x = new OdometerRing();
        Due.due("none was", x.cut(7, 0), 0);
        Due.due("at once", x.cut(7, 1), 7);
        x.drive(10);
        Due.due("three writes later", x.cut(4, 1), 4);
        x.drive(10);
        Due.due("the very next write", x.cut(1, 1), 1);
        x.drive(999);
        x.start();
        Due.due("none is left behind it", x.cut(1, 0), 0);
    }

    private static void start() {
        Due.sentence("Returns the distance then.");
        Due.due("start() of a new one", Due.told("O0410100c010d010").start(), 0);
        Due.due("start()", Made.off().start(), 10);
        Due.sentence("Throws IllegalStateException if the power is on");
        OdometerRing x = new OdometerRing();
        Due.dueState("start() of a new one", x::start);
        x.cut(1, 0);
        Due.dueState("start() with a cut that is set", x::start);
        x.drive(10);
        Due.due("start() behind the cut", x.start(), 0);
        Due.dueState("start() again", x::start);
        Due.dueState("start() on a dead memory", Made.dead()::start);
    }

    // ---- setStep, replace

    private static void setStep() {
        Due.sentence("Returns the previous step.");
        OdometerRing x = new OdometerRing();
        Due.due("setStep(1)", x.setStep(1), 10);
        Due.due("setStep(99)", x.setStep(99), 1);
        Due.due("setStep(99) again", x.setStep(99), 99);
        Due.due("without power", Made.off().setStep(99), 10);
        Due.sentence("Throws IllegalArgumentException if step is out of range");
        for (OdometerRing each : new OdometerRing[] {x, Made.off(), Made.dead()}) {
            for (int step : new int[] {0, -1, 100, LEAST, GREATEST}) {
                Due.dueArgument("setStep(" + step + ")", () -> each.setStep(step));
            }
        }
        Due.due("none of them was set", x.about(1), 99);
    }

    private static void replacedCells() {
        Due.sentence("Returns the sum of the wear of the old ones.");
        OdometerRing x = Due.told("O0410100d025c020d005s");
        Due.due("no cell is worn", x.replace(0), 0);
        Due.due("three cells are", x.replace(1), 3);
        Due.due("two cells are", x.replace(3), 2);
        Due.due("new ones are not", x.replace(3), 0);
        Due.sentence("Replaces the cells of a slot by new ones: all three hold 0, with a wear of 0.");
        for (int slot : new int[] {0, 1, 3}) {
            for (int i = 0; i < 3; i++) {
                Due.due("a new cell", x.cell(slot, i, 0), 0);
                Due.due("its wear", x.cell(slot, i, 1), 0);
            }
            Due.due("says", x.says(slot), 0);
        }
        Due.due("the one beside them", x.says(2), 20);
        OdometerRing full = Due.told("O0301999d999d999d999");
        Due.due("three cells that are stuck", full.replace(1), 2997);
        Due.due("not stuck any more", full.cell(1, 0, 2), 0);
        OdometerRing silent = Due.told("O0410100d010c021d010s");
        Due.due("an unreadable one", silent.replace(2), 2);
        Due.due("readable again", silent.says(2), 0);
    }

    private static void replaceRefused() {
        Due.sentence("Throws IndexOutOfBoundsException if there is no such slot");
        for (int n : new int[] {3, 4, 12}) {
            OdometerRing x = Due.ring(n, 10, 100);
            x.drive(10);
            for (int slot : new int[] {-1, n, LEAST, GREATEST}) {
                Due.dueIndex("replace(" + slot + ") of " + n, () -> x.replace(slot));
            }
            Due.due("replace(" + (n - 1) + ") of " + n, x.replace(n - 1), 0);
            Due.due("replace(0) of " + n, x.replace(0), 0);
        }
        Due.sentence("Throws IllegalStateException if the power is off, or it is the current slot");
        for (int k = 0; k <= 8; k++) {
            OdometerRing x = new OdometerRing();
            Due.driveFar(x, 10 * k);
            for (int each = 0; each < 4; each++) {
                int slot = each;
                boolean taken = Due.outcome(() -> x.replace(slot)).matches("[0-9]+");
                Due.due("replace(" + slot + ") at " + 10 * k + " is taken", taken ? 1 : 0, slot == k % 4 ? 0 : 1);
            }
        }
        for (int each = 0; each < 4; each++) {
            int slot = each;
            Due.dueState("replace(" + slot + ") without power", () -> Made.off().replace(slot));
        }
        OdometerRing x = Made.off();
        x.start();
        Due.due("with power", x.replace(2), 2);
        Due.dueState("the current slot", () -> x.replace(1));
        Due.due("on a dead memory", Made.dead().replace(2), 30);
        Due.dueState("the current slot of a dead memory", () -> Made.dead().replace(0));
    }

    public static void main(String[] args) {
        kindsAndParts();
        inPlaceOfTheOther();
        atMostTwelve();
        order();
        sinceThen();
        forget();
        tenths();
        asFarAsThePower();
        cutRange();
        cutFromNowOn();
        cutBefore();
        start();
        setStep();
        replacedCells();
        replaceRefused();
        Due.finish();
    }
}
