import java.math.BigInteger;

/** The document's words before the promises, and what its promises say without naming a boundary. */
public final class WordsTest {
    private static final int NONE = Due.NONE;

    private static long seed = 1;

    private static int below(int bound) {
        seed = seed * 6364136223846793005L + 1442695040888963407L;
        return (int) ((seed >>> 33) % bound);
    }

    // ---- what it is

    private static void apart() {
        Due.sentence("It keeps what was travelled apart from what is told, tells what each slot says and why it is not believed,"
            + " what would be told after a cut at any write, the worst loss, how long the memory lasts, and what is due first.");
        OdometerRing x = Due.told("O0310010d015m35c021d005sd004");
        Due.due("what was travelled", x.about(5), 24);
        Due.due("what is told", x.about(4), 14);
        Due.due("what the slot 1 says", x.says(1), 10);
        Due.due("what the slot 2 says", x.says(2), NONE);
        Due.due("why the slot 2 is not believed", x.whySilent(2), 2);
        Due.due("after a cut at the second write", x.afterCut(2, 1), 10);
        Due.due("after a cut at the third write", x.afterCut(3, 1), 14);
        Due.due("the worst loss", x.worstLoss(), 4);
        // 10 storings into the slot 0, 9 into each of the others; the slot 2 has two cells with a wear of 1 already.
        Due.due("how long it lasts", x.lasts(1), 29);
        Due.due("what is due first", x.dueFirst(), 35);
    }

    /** Drives tenth by tenth, so that the stored number is seen before each cut; some 460 calls an object. */
    private static void neverLess() {
        Due.sentence("What it tells is never less than what was stored.");
        for (int run = 0; run < 600; run++) {
            OdometerRing x = Due.told(Due.head(3 + below(4), 1 + below(12), 10 + below(20)) + "d" + Due.digits(1 + below(120), 3));
            int stored = x.about(6);
            for (int turn = 0; turn < 44; turn++) {
                if (x.about(3) == 0) {
                    dueAtLeast("start()", x.start(), stored);
                } else {
                    changeSomething(x);
                }
                if (x.about(3) == 1) {
                    dueAtLeast("the distance", x.about(4), x.about(6));
                    dueAtLeast("the stored number", x.about(6), stored);
                    stored = x.about(6);
                }
            }
        }
    }

    private static void changeSomething(OdometerRing x) {
        switch (below(10)) {
            case 0, 1 -> x.cut(1 + below(5), below(3));
            case 2 -> x.setStep(1 + below(12));
            case 3 -> Due.outcome(() -> x.replace(below(x.about(0))));
            default -> {
                if (x.about(12) == 0) {
                    dueAtLeast("afterCut()", x.afterCut(1 + below(9), below(3)), x.about(6));
                }
                x.drive(1);
            }
        }
    }

    private static void dueAtLeast(String what, int got, int least) {
        Due.due(what + ", or what is the least", Math.min(got, least), least);
    }

    private static void undone() {
        Due.sentence("Changes can be undone.");
        OdometerRing x = Due.told("O0310010d015m35");
        String[] seen = new String[8];
        seen[0] = Whole.state(x);
        x.cut(2, 1);
        seen[1] = Whole.state(x);
        x.drive(5);
        seen[2] = Whole.state(x);
        x.start();
        seen[3] = Whole.state(x);
        x.service(3, 5);
        for (int k = 3; k >= 0; k--) {
            Due.due("undo()", x.undo(), k);
            Due.dueText("what was seen before the action " + k, Whole.state(x), seen[k]);
        }
        Due.sentence("Before each action, the state is remembered.");
        OdometerRing y = new OdometerRing();
        y.drive(12);
        Due.due("one is remembered", y.undo(), 0);
        Due.due("as it was before", y.about(4) + y.about(5) + y.about(8), 0);
    }

    private static void eachTenth() {
        Due.sentence("Each tenth of a kilometer increases what was travelled, and the distance, by 1;");
        OdometerRing x = Due.told("O0310010d015c010d005s");
        for (int tenth = 1; tenth <= 40; tenth++) {
            x.drive(1);
            Due.due("travelled", x.about(5), 20 + tenth);
            Due.due("the distance", x.about(4), 10 + tenth);
        }
    }

    private static void none() {
        Due.sentence("The constants: `NONE = -99999`: There is no such result.");
        Due.due("NONE", OdometerRing.NONE, -99999);
        Due.due("no service is due first", new OdometerRing().dueFirst(), -99999);
    }

    // ---- text

    private static void leftToRight() {
        Due.sentence("The text is read from left to right.");
        String[] texts = {"o0310100", "O13-10100", "O0300010", "O0310009d000", "O0310100d000c370", "O0310100sxd000", "O03101004"};
        int[] errors = {0, 2, 4, 6, 11, 9, 8};
        for (int k = 0; k < texts.length; k++) {
            OdometerRing x = new OdometerRing();
            Due.write(x, texts[k]);
            Due.due("errorPosition() of " + texts[k], x.errorPosition(), errors[k]);
        }
    }

    private static void newLength() {
        Due.sentence("Appends a character to the text buffer.");
        OdometerRing x = new OdometerRing();
        String story = "O0310100d015";
        for (int i = 0; i < story.length(); i++) {
            Due.due("append(" + story.charAt(i) + ")", x.append(story.charAt(i)), i + 1);
        }
        Due.due("each stands behind the one before", x.errorPosition(), NONE);
        x.load();
        Due.due("as it was appended", x.about(5), 15);
        Due.sentence("Returns the new length of the text.");
        for (int length = 13; length <= 90; length++) {
            Due.due("append('s')", x.append('s'), length);
        }
        Due.due("the whole length", x.clearText(), 90);
        Due.due("append() to an empty text", x.append(0), 1);
    }

    // ---- what there is

    private static void numbersOfTheState() {
        Due.sentence("4: the distance; 5: what was travelled so far; 6: the stored number; 7: the current slot; 8: the number of writes"
            + " so far; 9: of power cuts so far;");
        OdometerRing x = Due.told("O0507100");
        int[][] seen = {
            {0, 0, 0, 0, 0, 0}, {12, 12, 7, 1, 3, 0}, {7, 14, 7, 1, 5, 1}, {20, 27, 14, 2, 8, 1}, {14, 28, 14, 2, 9, 2}
        };
        dueNumbers("at first", x, seen[0]);
        x.drive(12);
        dueNumbers("driven", x, seen[1]);
        x.cut(2, 0);
        x.drive(9);
        x.start();
        dueNumbers("cut", x, seen[2]);
        x.drive(13);
        dueNumbers("driven again", x, seen[3]);
        x.cut(1, 0);
        x.drive(9);
        x.start();
        dueNumbers("cut again", x, seen[4]);
        Due.sentence("0: N; 1: the step; 2: L;");
        int[] head = {5, 7, 100};
        for (int what = 0; what < head.length; what++) {
            Due.due("about(" + what + ")", x.about(what), head[what]);
        }
    }

    private static void dueNumbers(String when, OdometerRing x, int[] numbers) {
        for (int k = 0; k < numbers.length; k++) {
            Due.due(when + ": about(" + (4 + k) + ")", x.about(4 + k), numbers[k]);
        }
    }

    private static void numbersOfServices() {
        Due.sentence("0: its kind; 1: its part; 2: the distance that was noted");
        OdometerRing x = Due.told("O0410100m12d007m98");
        int[][] services = {{1, 2, 0}, {9, 8, 7}};
        for (int i = 0; i < services.length; i++) {
            for (int what = 0; what <= 2; what++) {
                Due.due("serviceAt(" + i + ", " + what + ")", x.serviceAt(i, what), services[i][what]);
            }
        }
        Due.sentence("Notes that a service is done now.");
        x.drive(4);
        x.service(1, 2);
        Due.due("the distance now", x.serviceAt(1, 2), 11);
        Due.sentence("Forgets a service.");
        x.forget(9, 8);
        Due.due("the only one that is left", x.dueFirst(), 12);
    }

    private static void latestCut() {
        Due.sentence("Tells about the latest power cut.");
        OdometerRing x = Due.told("O0301010d027");
        x.cut(2, 1);
        x.drive(99);
        dueCut("the first cut", x, 1, 1, 1, 0);
        x.start();
        x.drive(3);
        dueCut("the first cut, while the next is not set", x, 1, 1, 1, 0);
        x.cut(6, 2);
        x.drive(99);
        Due.sentence("0: the slot of the cell on which it fell; 1: the cell, 0 to 2; 2: its kind;");
        dueCut("the second cut", x, 2, 2, 2, 1);
        x.start();
        dueCut("the second cut, when the power is on again", x, 2, 2, 2, 1);
        x.undo();
        x.undo();
        dueCut("the first cut again", x, 1, 1, 1, 0);
    }

    private static void dueCut(String when, OdometerRing x, int... told) {
        for (int what = 0; what < told.length; what++) {
            Due.due(when + ": lastCut(" + what + ")", x.lastCut(what), told[what]);
        }
    }

    // ---- actions

    private static void powerAndStep() {
        Due.sentence("Drives, as far as the power is not cut.");
        OdometerRing x = Due.told("O0410100c041");
        Due.due("drive(15)", x.drive(15), 15);
        Due.due("drive(15) again", x.drive(15), 5);
        Due.due("travelled", x.about(5), 20);
        Due.sentence("Switches the power on.");
        Due.due("off", x.about(3), 0);
        x.start();
        Due.due("on", x.about(3), 1);
        Due.sentence("Changes the step.");
        x.setStep(3);
        x.drive(2);
        Due.due("not yet", x.about(6), 10);
        x.drive(1);
        Due.due("with the new step", x.about(6), 13);
    }

    // ---- what would be

    private static void dueFirst() {
        Due.sentence("Finds the service that is due first, if all have the same interval.");
        for (int run = 0; run < 1000; run++) {
            OdometerRing x = Due.ring(4, 3, 999);
            for (int turn = 0; turn < run % 30; turn++) {
                x.service(below(2), below(6));
                if (below(5) == 0) {
                    x.cut(1, 0);
                }
                x.drive(1 + below(4));
                Due.outcome(x::start);
            }
            dueFirstOfAll(x);
        }
    }

    private static void dueFirstOfAll(OdometerRing x) {
        int first = NONE;
        int soonest = Integer.MAX_VALUE;
        for (int i = 0; i < x.about(14); i++) {
            int kind = x.serviceAt(i, 0);
            int part = x.serviceAt(i, 1);
            if (x.dueIn(kind, part, 500) < soonest) {
                soonest = x.dueIn(kind, part, 500);
                first = 10 * kind + part;
            }
        }
        Due.due("dueFirst()", x.dueFirst(), first);
    }

    // ---- scripts, simulations

    private static void decimalNumbers() {
        Due.sentence("xy and xyz are decimal numbers.");
        OdometerRing x = Due.told("O0410100d123");
        int[] least = {123, 124, 132, 213, 99, 100, 321};
        for (int xyz : least) {
            Due.due("at least " + xyz, x.runScript(1, 5000 + xyz), xyz <= 123 ? NONE : 0);
        }
        // The cut falls if the step is reached, and just then the power can be switched on.
        Due.due("the step 21, 20 driven", new OdometerRing().runScript(4, 6021201010203000L), 3);
        Due.due("the step 21, 21 driven", new OdometerRing().runScript(4, 6021201010213000L), NONE);
        OdometerRing worn = Due.told("O0310100d360r01");
        Due.due("the gap", worn.about(13), 12);
        Due.due("12 is at most 12", worn.runScript(1, 8012), NONE);
        Due.due("12 is at most 21", worn.runScript(1, 8021), NONE);
        Due.due("12 is at most 11", worn.runScript(1, 8011), 0);
    }

    private static void onACopy() {
        Due.sentence("Runs a script on a copy of the state.");
        OdometerRing x = Due.told("O0410100d015m35c042");
        String seen = Whole.state(x);
        Due.due("runScript()", x.runScript(4, 1099300041206003L), NONE);
        Due.dueText("behind it", Whole.state(x), seen);
        Due.due("the same once more", x.runScript(4, 1099300041206003L), NONE);
        Due.sentence("Simulates m rounds on a copy of the state.");
        int answer = x.simulate(7, 99);
        Due.dueText("behind it", Whole.state(x), seen);
        Due.due("the same once more", x.simulate(7, 99), answer);
        Due.dueState("nothing is remembered", x::undo);
    }

    private static void drawnNumbers() {
        Due.sentence("A long x starts as the seed. Each round first replaces x by x * 6364136223846793005L + 1442695040888963407L (with"
            + " long overflow), and r = (int) (x >>> 33) is computed.");
        long[] seeds = {0, 1, -1, 2, 77, 1L << 32, 1L << 33, -1L << 33, Long.MAX_VALUE, Long.MIN_VALUE, 6364136223846793005L};
        OdometerRing x = Due.ring(12, 99, 999);
        for (long each : seeds) {
            for (int m = 1; m <= 9 && travelled(each, m) < 99; m++) {
                Due.due("simulate(" + each + ", " + m + ")", x.simulate(each, m), 10000L * travelled(each, m));
            }
        }
    }

    /** What m rounds drive; with the greatest step, the first write, on which a cut can fall, is at 99 tenths. */
    private static int travelled(long seed, int m) {
        BigInteger modulus = BigInteger.ONE.shiftLeft(64);
        BigInteger x = BigInteger.valueOf(seed).mod(modulus);
        int travelled = 0;
        for (int round = 0; round < m; round++) {
            x = x.multiply(new BigInteger("6364136223846793005")).add(new BigInteger("1442695040888963407")).mod(modulus);
            travelled += 1 + x.shiftRight(33).intValueExact() / 256 % 50;
        }
        return travelled;
    }

    public static void main(String[] args) {
        apart();
        neverLess();
        undone();
        eachTenth();
        none();
        leftToRight();
        newLength();
        numbersOfTheState();
        numbersOfServices();
        latestCut();
        powerAndStep();
        dueFirst();
        decimalNumbers();
        onACopy();
        drawnNumbers();
        Due.finish();
    }
}
