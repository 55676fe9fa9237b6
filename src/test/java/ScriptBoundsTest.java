/** The boundaries that the document names in the promises 26 and 27, sentence by sentence. */
public final class ScriptBoundsTest {
    private static final int NONE = Due.NONE;
    private static final int LEAST = Integer.MIN_VALUE;
    private static final int GREATEST = Integer.MAX_VALUE;

    private interface Rule {
        boolean succeeds(int group);
    }

    // ---- runScript

    private static void scriptRange() {
        Due.sentence("Throws IllegalArgumentException if n is out of range, or if script is negative or has more than 4 * n digits");
        for (OdometerRing x : new OdometerRing[] {new OdometerRing(), Made.off(), Made.dead()}) {
            for (int n : new int[] {0, -1, 5, LEAST, GREATEST}) {
                Due.dueArgument("runScript(" + n + ", 0)", () -> x.runScript(n, 0));
                Due.dueArgument("runScript(" + n + ", 6001)", () -> x.runScript(n, 6001));
            }
            long[] tooLong = {10000L, 100000000L, 1000000000000L, 10000000000000000L};
            for (int k = 1; k <= 4; k++) {
                int n = k;
                long script = tooLong[k - 1];
                Due.due("runScript(" + n + ", " + (script - 1) + ")", x.runScript(n, script - 1), 0);
                Due.due("runScript(" + n + ", 0)", x.runScript(n, 0), 0);
                Due.dueArgument("runScript(" + n + ", " + script + ")", () -> x.runScript(n, script));
                Due.dueArgument("runScript(" + n + ", " + 6001 * script + ")", () -> x.runScript(n, 6001 * script));
                Due.dueArgument("runScript(" + n + ", -1)", () -> x.runScript(n, -1));
                Due.dueArgument("runScript(" + n + ", -6001)", () -> x.runScript(n, -6001));
                Due.dueArgument("the least long", () -> x.runScript(n, Long.MIN_VALUE));
                Due.dueArgument("the greatest long", () -> x.runScript(n, Long.MAX_VALUE));
                // As an int it would be a good one.
                Due.dueArgument("6001 and 2 ^ 60", () -> x.runScript(n, (1L << 60) + 6001));
            }
        }
    }

    private static void firstThatFails() {
        Due.sentence("Returns the index, from 0, of the first command that fails; NONE if all succeed.");
        for (int n = 1; n <= 4; n++) {
            for (int fails = 0; fails <= n; fails++) {
                long script = 0;
                for (int i = 0; i < n; i++) {
                    script = script * 10000 + (i == fails ? 3000 : 6001);
                }
                Due.due("runScript(" + n + ", " + script + ")", new OdometerRing().runScript(n, script), fails == n ? NONE : fails);
            }
        }
        Due.due("two fail", new OdometerRing().runScript(4, 6001300030006001L), 1);
        Due.sentence("the first command is the highest group of the number (with zeros before it, if it has fewer digits).");
        Due.due("a group of zeros is the first", new OdometerRing().runScript(2, 6001), 0);
        Due.due("the same as one", new OdometerRing().runScript(1, 6001), NONE);
        Due.due("the highest group is done first", new OdometerRing().runScript(2, 10105010), NONE);
        Due.due("the lowest one is not", new OdometerRing().runScript(2, 50101010), 0);
    }

    /** Each of the 10,000 groups, alone. */
    private static void dueGroups(String when, String story, Rule rule) {
        OdometerRing x = Due.told(story);
        for (int group = 0; group <= 9999; group++) {
            if (group % 400 == 399) {
                x = Due.told(story);
            }
            Due.due(when + ": the group " + Due.digits(group, 4), x.runScript(1, group), rule.succeeds(group) ? NONE : 0);
        }
    }

    private static boolean between(int group, int least, int most) {
        return group >= least && group <= most;
    }

    private static boolean isCut(int group) {
        return between(group, 2010, 2099) && group % 10 <= 2;
    }

    private static boolean isService(int group) {
        return between(group, 4000, 4990) && group % 10 == 0;
    }

    private static boolean isOneOf(int group, int... all) {
        for (int each : all) {
            if (group == each) {
                return true;
            }
        }
        return false;
    }

    private static void groups() {
        Due.sentence("commands with slots that do not exist fail, and so does any other group (also one with another digit where a"
            + " 0 is written).");
        dueGroups("a new one", "O0410100", g -> between(g, 1001, 1999) || isCut(g) || isService(g) || g == 5000
            || between(g, 6001, 6099) || isOneOf(g, 7000, 7100, 7200, 7300, 9100, 9200, 9300) || between(g, 8000, 8099));
        dueGroups("three slots, driven", "O0310100d025", g -> between(g, 1001, 1999) || isCut(g) || isService(g)
            || between(g, 5000, 5025) || between(g, 6001, 6099) || isOneOf(g, 7000, 7100, 7200, 9000, 9100)
            || between(g, 8001, 8099));
        dueGroups("twelve slots", "O1210100", g -> between(g, 1001, 1999) || isCut(g) || isService(g) || g == 5000
            || between(g, 6001, 6099) || between(g, 7000, 7900) && g % 100 == 0 || between(g, 9100, 9900) && g % 100 == 0
            || between(g, 8000, 8099));
        dueGroups("without power, a slot is silent", "O0410100d010c021d010", g -> g == 3000 || between(g, 6001, 6099)
            || isOneOf(g, 7000, 7100, 7300) || between(g, 8001, 8099));
        dueGroups("twelve services, worn 100 times", "O0310100m00m01m02m03m04m05m06m07m08m09m10m11d999d999d999d003r01",
            g -> between(g, 1001, 1999) || isCut(g) || between(g, 4000, 4110) && g % 10 == 0 || between(g, 5000, 5999)
                || between(g, 6001, 6099) || isOneOf(g, 7000, 7100, 7200, 9100, 9200));
    }

    private static void likeTheMethods() {
        Due.sentence("1 x y z: drive(xyz). 2 0 x k: cut(x, k). 3 0 0 0: start(). 4 k p 0: service(k, p).");
        OdometerRing x = new OdometerRing();
        Due.due("drive(999) goes 999", x.runScript(2, 19995999), NONE);
        Due.due("drive(99) goes 99", x.runScript(2, 10995099), NONE);
        Due.due("and no farther", x.runScript(2, 10995100), 1);
        Due.due("cut(9, 2) cuts", x.runScript(3, 209210303000L), NONE);
        Due.due("at the ninth write, not before", x.runScript(3, 209210293000L), 2);
        Due.due("cut(1, 1) leaves a slot that says something", x.runScript(3, 201110107100L), NONE);
        Due.due("cut(2, 1) does not", x.runScript(3, 202110107100L), 2);
        Due.due("cut(2, 0) leaves what two cells held", x.runScript(3, 202010107100L), NONE);
        Due.due("start() tells", Due.told("O0410100d025c010d099").runScript(2, 30005020), NONE);
        Due.sentence("6 0 x y: setStep(xy).");
        Due.due("setStep(1)", x.runScript(3, 600110017100L), NONE);
        Due.due("one storing", x.runScript(3, 600110018000L), 2);
        Due.due("setStep(2), and not yet a storing", x.runScript(3, 600210018000L), NONE);
        Due.due("setStep(99), and not yet a storing", x.runScript(3, 609910988000L), NONE);
        Due.due("setStep(99), and a storing", x.runScript(3, 609910998000L), 2);
        Due.sentence("7 s 0 0: succeeds if the slot s says something.");
        Due.due("something", Due.told("O0410100d010c010d010").runScript(1, 7200), NONE);
        Due.due("nothing", Due.told("O0410100d010c021d010").runScript(1, 7200), 0);
        Due.sentence("9 s 0 0: replace(s).");
        Due.due("a gap of wear", Due.told("O0410100d020").runScript(2, 91008001), NONE);
        Due.due("no gap any more", Due.told("O0410100c010d010s").runScript(2, 91008000), NONE);
        Due.due("a gap without it", Due.told("O0410100c010d010s").runScript(1, 8000), 0);
    }

    private static void distanceAtLeast() {
        Due.sentence("5 x y z: succeeds if the power is on and the distance is at least xyz.");
        OdometerRing x = new OdometerRing();
        x.drive(998);
        Due.due("998 and 999", x.runScript(1, 5999), 0);
        Due.due("998 and 998", x.runScript(1, 5998), NONE);
        x.drive(1);
        Due.due("999 and 999", x.runScript(1, 5999), NONE);
        x.drive(1);
        Due.due("1000 and 999", x.runScript(1, 5999), NONE);
        Due.due("at least 0", new OdometerRing().runScript(1, 5000), NONE);
        Due.due("at least 0, without power", Made.off().runScript(1, 5000), 0);
        Due.due("the told distance", Made.off().runScript(2, 30005010), NONE);
        Due.due("one more than it", Made.off().runScript(2, 30005011), 1);
    }

    private static void wearAtMost() {
        Due.sentence("8 0 x y: succeeds if about(13) is at most xy.");
        OdometerRing x = Due.told("O0310100d999d999d999d003r01");
        Due.due("100 is more than 99", x.about(13) * 10 + x.runScript(1, 8099), 1000);
        OdometerRing y = Due.told("O0310100d990d990d990d003r01");
        Due.due("99 is at most 99", y.about(13) * 10 + (y.runScript(1, 8099) == NONE ? 1 : 0), 991);
        Due.due("99 is more than 98", y.runScript(1, 8098), 0);
        Due.due("0 is at most 0", new OdometerRing().runScript(1, 8000), NONE);
        Due.due("1 is more than 0", Due.told("O0410100c010d010").runScript(1, 8000), 0);
        Due.due("1 is at most 1", Due.told("O0410100c010d010").runScript(1, 8001), NONE);
    }

    private static void powerCutInThem() {
        Due.sentence("The commands 1 to 4, 6 and 9 succeed also if the power is cut in them, and fail if the method would throw an"
            + " exception");
        OdometerRing x = new OdometerRing();
        Due.due("a drive to the cut succeeds", x.runScript(4, 2010101030005000L), NONE);
        Due.due("the drive behind it fails", x.runScript(3, 201010101001L), 2);
        Due.due("the cut behind it fails", x.runScript(3, 201010102010L), 2);
        Due.due("the service behind it fails", x.runScript(3, 201010104000L), 2);
        Due.due("the replace behind it fails", x.runScript(3, 201010109100L), 2);
        Due.due("the step behind it does not", x.runScript(3, 201010106001L), NONE);
        Due.due("a drive to the tenth before the cut", x.runScript(3, 201010093000L), 2);
        OdometerRing eleven = Due.told("O0410100m00m01m02m03m04m05m06m07m08m09m10");
        Due.due("a 12th service, and one of them again", eleven.runScript(2, 41104110), NONE);
        Due.due("a 12th and a 13th service", eleven.runScript(2, 41104120), 1);
    }

    // ---- simulate

    private static void rounds() {
        Due.sentence("Throws IllegalArgumentException if m is out of range");
        for (OdometerRing x : new OdometerRing[] {new OdometerRing(), Made.off(), Made.dead()}) {
            for (int m : new int[] {0, -1, 100, LEAST, GREATEST}) {
                Due.dueArgument("simulate(1, " + m + ")", () -> x.simulate(1, m));
            }
        }
        Due.sentence("seed: any long m: number of rounds, 1 to 99");
        String[] stories = {"O0410100", "O0301010d028", "O0410100d015m35c021d005", "O0303020d044c362", "O0301010d031", "O1299999d999"};
        long[] seeds = {0, 1, -1, 42, Long.MIN_VALUE, Long.MAX_VALUE, 6364136223846793005L};
        for (String story : stories) {
            for (long seed : seeds) {
                for (int m : new int[] {1, 2, 3, 50, 98, 99}) {
                    String call = story + ": simulate(" + seed + ", " + m + ")";
                    Due.due(call, Due.told(story).simulate(seed, m), played(Due.told(story), seed, m));
                }
            }
        }
    }

    /** What simulate() answers, by the calls of the actions that the document names. */
    private static long played(OdometerRing x, long seed, int m) {
        int before = x.about(5);
        long number = seed;
        for (int round = 0; round < m; round++) {
            number = number * 6364136223846793005L + 1442695040888963407L;
            int r = (int) (number >>> 33);
            if (x.about(3) == 0) {
                x.start();
            }
            if (r % 4 == 0) {
                x.cut(1 + r / 4 % 9, r / 64 % 3);
            }
            x.drive(1 + r / 256 % 50);
        }
        if (x.about(3) == 0) {
            x.start();
        }
        return 10000L * (x.about(5) - before) + Math.min(9999, x.about(5) - x.about(4));
    }

    private static void oneRound() {
        Due.sentence("if r % 4 is 0, a cut of the kind r / 64 % 3 is set for the write 1 + r / 4 % 9 from now on; in each case,"
            + " 1 + r / 256 % 50 tenths of a kilometer are driven, as far as the power is not cut.");
        OdometerRing x = new OdometerRing();
        x.setStep(1);
        for (int write = 1; write <= 9; write++) {
            int cutAt = (write + 2) / 3;
            int lost = write % 3 == 0 ? 0 : 1;
            Rounds.dueRound("cut", x, Rounds.withCut(write, 0, 50), 10000 * cutAt + lost);
            Rounds.dueRound("not reached", x, Rounds.withCut(write, 0, cutAt), 10000 * cutAt + lost);
            if (cutAt > 1) {
                Rounds.dueRound("one tenth before", x, Rounds.withCut(write, 0, cutAt - 1), 10000 * (cutAt - 1));
            }
        }
        Rounds.dueRound("no cut, the least way", x, Rounds.withoutCut(1), 10000);
        Rounds.dueRound("no cut, the longest way", x, Rounds.withoutCut(50), 500000);
        Rounds.dueRound("r is 0", x, 0, 10001);
        Rounds.dueRound("r is 4", x, 4, 10001);
        Rounds.dueRound("r is 3", x, 3, 10000);
        Rounds.dueRound("r is the greatest", x, GREATEST, 10000 * (1 + GREATEST / 256 % 50));
        Due.sentence("If the power is off, it is switched on.");
        Rounds.dueRound("the power is off before", Made.off(), Rounds.withoutCut(1), 10010);
        Rounds.dueRound("the power is off before, and cut again", Made.off(), Rounds.withCut(1, 0, 50), 100020);
    }

    /** The second write of 1200 tells the kind 2 from the others: half written, it is written. */
    private static void kindsOfCuts() {
        Due.sentence("a cut of the kind r / 64 % 3");
        for (int r = 4; r < 400000; r++) {
            if (r % 4 == 0 && r / 4 % 9 == 1 && r / 256 % 50 == 0) {
                OdometerRing x = Due.ring(4, 1, 999);
                Due.driveFar(x, 1199);
                Rounds.dueRound("1200 with the kind " + r / 64 % 3, x, r, r / 64 % 3 == 2 ? 10000 : 10001);
            }
        }
    }

    private static void atMost9999() {
        Due.sentence("(what was travelled in all, less the distance at the end, the power being switched on before that if it is off;"
            + " at most 9999).");
        int[] lost = {97, 98, 99};
        int[] due = {19997, 19998, 19999};
        for (int k = 0; k < lost.length; k++) {
            OdometerRing x = Due.ring(4, 99, 999);
            for (int times = 0; times < 100; times++) {
                x.cut(1, 0);
                x.drive(99);
                x.start();
            }
            loseTenths(x, lost[k]);
            Due.due("lost", x.about(5) - x.about(4), 9900 + lost[k]);
            Rounds.dueRound("lost " + (9900 + lost[k]), x, Rounds.withoutCut(1), due[k]);
            loseTenths(x, 1);
            Rounds.dueRound("lost one more", x, Rounds.withoutCut(1), Math.min(19999, due[k] + 1));
            loseTenths(x, 99);
            Rounds.dueRound("lost many more", x, Rounds.withoutCut(1), 19999);
        }
        Rounds.dueRound("nothing is lost", new OdometerRing(), Rounds.withoutCut(50), 500000);
    }

    private static void loseTenths(OdometerRing x, int tenths) {
        x.setStep(tenths);
        x.cut(1, 0);
        x.drive(tenths);
        x.start();
        x.setStep(99);
    }

    public static void main(String[] args) {
        scriptRange();
        firstThatFails();
        groups();
        likeTheMethods();
        distanceAtLeast();
        wearAtMost();
        powerCutInThem();
        rounds();
        oneRound();
        kindsOfCuts();
        atMost9999();
        Due.finish();
    }
}
