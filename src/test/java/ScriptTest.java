/** Promises 26 and 27: runScript, simulate. */
public final class ScriptTest {
    private static final int NONE = Due.NONE;

    private static void dueScript(OdometerRing x, String script, int want) {
        String digits = script.replace(" ", "");
        Due.due("runScript " + script, x.runScript(digits.length() / 4, Long.parseLong(digits)), want);
    }

    private static void scriptArguments() {
        OdometerRing x = new OdometerRing();
        for (int n : new int[] {0, -1, 5, Integer.MIN_VALUE, Integer.MAX_VALUE}) {
            Due.dueArgument("runScript(" + n + ", 0)", () -> x.runScript(n, 0));
            Due.dueArgument("runScript(" + n + ", 1001)", () -> x.runScript(n, 1001));
        }
        long least = 1;
        for (int k = 1; k <= 4; k++) {
            int n = k;
            least *= 10000;
            long tooLong = least;
            Due.dueArgument("runScript(" + n + ", " + tooLong + ")", () -> x.runScript(n, tooLong));
            Due.due("runScript(" + n + ", " + (tooLong - 1) + ")", x.runScript(n, tooLong - 1), 0);
            Due.dueArgument("runScript(" + n + ", -1)", () -> x.runScript(n, -1));
            Due.dueArgument("the least long", () -> x.runScript(n, Long.MIN_VALUE));
            Due.dueArgument("the greatest long", () -> x.runScript(n, Long.MAX_VALUE));
            Due.due("runScript(" + n + ", 0)", x.runScript(n, 0), 0);
        }
        Due.due("zeros before it", x.runScript(2, 1001), 0);
        Due.due("four of four", x.runScript(4, 1001100110011001L), NONE);
        Due.due("the fourth fails", x.runScript(4, 1001100110013000L), 3);
    }

    private static void commands() {
        OdometerRing x = new OdometerRing();
        x.drive(25);
        dueScript(x, "1001", NONE);
        dueScript(x, "1999", NONE);
        dueScript(x, "1000", 0);
        dueScript(x, "2010", NONE);
        dueScript(x, "2092", NONE);
        dueScript(x, "2000", 0);
        dueScript(x, "2013", 0);
        dueScript(x, "2110", 0);
        dueScript(x, "3000", 0);
        dueScript(x, "2010 1010 3000", NONE);
        dueScript(x, "2010 1010 3001", 2);
        dueScript(x, "2010 1010 3100", 2);
        dueScript(x, "2010 1010 3010", 2);
        dueScript(x, "4000", NONE);
        dueScript(x, "4990", NONE);
        dueScript(x, "4001", 0);
        dueScript(x, "5025", NONE);
        dueScript(x, "5026", 0);
        dueScript(x, "5000", NONE);
        dueScript(x, "1010 5035", NONE);
        dueScript(x, "1010 5036", 1);
        dueScript(x, "6001", NONE);
        dueScript(x, "6099", NONE);
        dueScript(x, "6000", 0);
        dueScript(x, "6101", 0);
        dueScript(x, "6002 2041 1005 5028", 3);
        dueScript(x, "6002 2041 1005 3000", NONE);
        dueScript(x, "7000", NONE);
        dueScript(x, "7300", NONE);
        dueScript(x, "7400", 0);
        dueScript(x, "7900", 0);
        dueScript(x, "7001", 0);
        dueScript(x, "7010", 0);
        dueScript(x, "8001", NONE);
        dueScript(x, "8000", 0);
        dueScript(x, "8099", NONE);
        dueScript(x, "8101", 0);
        dueScript(x, "9000", NONE);
        dueScript(x, "9200", 0);
        dueScript(x, "9400", 0);
        dueScript(x, "9900", 0);
        dueScript(x, "9001", 0);
        dueScript(x, "9010", 0);
        dueScript(x, "0000", 0);
        dueScript(x, "0001", 0);
        dueScript(x, "0100", 0);
        dueScript(x, "9000 9100 9300 8001", NONE);
        dueScript(x, "9000 9100 9300 8000", 3);
        Due.due("nothing changed", x.about(4) + x.about(8) + x.about(10) + x.about(9) + x.about(14), 31);
        Due.due("nor the step", x.about(1), 10);
        Due.due("nor the slots", x.says(1), 10);
        Due.due("nothing is remembered", x.undo(), 0);
    }

    private static void commandsWithoutPower() {
        OdometerRing x = new OdometerRing();
        x.drive(10);
        x.cut(2, 1);
        x.drive(10);
        dueScript(x, "1001", 0);
        dueScript(x, "2010", 0);
        dueScript(x, "3000", NONE);
        dueScript(x, "3000 3000", 1);
        dueScript(x, "4000", 0);
        dueScript(x, "5000", 0);
        dueScript(x, "3000 5010", NONE);
        dueScript(x, "3000 5011", 1);
        dueScript(x, "6005", NONE);
        dueScript(x, "7100", NONE);
        dueScript(x, "7200", 0);
        dueScript(x, "8001", NONE);
        dueScript(x, "9300", 0);
        dueScript(x, "3000 9200 7200", NONE);
        dueScript(x, "3000 9100", 1);
        dueScript(x, "3000 2021 1099 1001", 3);
        Due.due("the power stays off", x.about(3), 0);
    }

    private static void commandsOfServicesAndSlots() {
        OdometerRing x = new OdometerRing();
        for (int part = 0; part < 10; part++) {
            x.service(1, part);
        }
        dueScript(x, "4200 4210 4220", 2);
        dueScript(x, "4200 4210 4100", NONE);
        OdometerRing y = Due.told("O1201010");
        dueScript(y, "7900 9900", NONE);
        OdometerRing z = Due.told("O0301010");
        dueScript(z, "7200", NONE);
        dueScript(z, "7300", 0);
        dueScript(z, "9300", 0);
        dueScript(z, "1031 5031 1001 5032", NONE);
        OdometerRing far = new OdometerRing();
        far.drive(999);
        far.drive(1);
        dueScript(far, "5999", NONE);
        dueScript(Due.told("O0301999d999d999d999r01"), "8099", 0);
    }

    private static void simulateRounds() {
        OdometerRing x = new OdometerRing();
        for (int m : new int[] {0, -1, 100, Integer.MIN_VALUE, Integer.MAX_VALUE}) {
            Due.dueArgument("simulate(1, " + m + ")", () -> x.simulate(1, m));
        }
        Rounds.dueRound("a round", x, 0, 10000);
        Rounds.dueRound("a round", x, Rounds.r(1, 1, 0, 50), 500000);
        Rounds.dueRound("a round", x, Rounds.r(2, 1, 0, 50), 500000);
        Rounds.dueRound("a round", x, Rounds.r(3, 9, 2, 1), 10000);
        Rounds.dueRound("a round", x, Rounds.r(0, 1, 0, 9), 90000);
        Rounds.dueRound("a round", x, Rounds.r(0, 1, 0, 50), 100010);
        Rounds.dueRound("a round", x, Rounds.r(0, 2, 1, 50), 100010);
        Rounds.dueRound("a round", x, Rounds.r(0, 3, 1, 50), 100000);
        Rounds.dueRound("a round", x, Rounds.r(0, 4, 0, 50), 200010);
        Rounds.dueRound("a round", x, Rounds.r(0, 9, 2, 50), 300000);
        x.drive(7);
        x.cut(1, 0);
        Rounds.dueRound("a round", x, Rounds.r(1, 1, 0, 50), 30010);
        Rounds.dueRound("a round", x, Rounds.r(0, 6, 0, 50), 130000);
        Rounds.dueRound("a round", x, Rounds.r(0, 9, 0, 2), 20000);
        Due.due("the cut stays set", x.about(10), 1);
        Due.due("nothing was driven", x.about(5), 7);
        Due.due("nothing is remembered", x.undo(), 1);
        Due.due("the least seed", x.simulate(Long.MIN_VALUE, 1) / 10000 > 0 ? 1 : 0, 1);
        Due.due("the greatest seed", x.simulate(Long.MAX_VALUE, 99) / 10000 > 99 ? 1 : 0, 1);

        OdometerRing y = new OdometerRing();
        y.setStep(99);
        y.drive(999);
        y.drive(190);
        Due.due("1189, stored", y.about(6), 1188);
        y.setStep(12);
        Rounds.dueRound("a round", y, Rounds.r(0, 2, 0, 30), 110012);
        Rounds.dueRound("a round", y, Rounds.r(0, 2, 2, 30), 110000);
    }

    private static void simulateWithoutPower() {
        OdometerRing x = new OdometerRing();
        x.drive(20);
        x.cut(1, 1);
        x.drive(10);
        Rounds.dueRound("a round", x, Rounds.r(1, 1, 0, 5), 50010);
        Rounds.dueRound("a round", x, Rounds.r(0, 1, 0, 50), 100020);
        Due.due("the power stays off", x.about(3), 0);
    }

    private static void simulateMuchLost() {
        OdometerRing x = new OdometerRing();
        x.setStep(99);
        for (int k = 0; k < 100; k++) {
            x.cut(1, 0);
            x.drive(99);
            x.start();
        }
        Due.due("9900 are lost", x.about(5) - x.about(4), 9900);
        Rounds.dueRound("a round", x, Rounds.r(1, 1, 0, 50), 509900);
        x.cut(1, 0);
        x.drive(99);
        x.start();
        Rounds.dueRound("a round", x, Rounds.r(1, 1, 0, 50), 509999);
        x.cut(1, 0);
        x.drive(99);
        Rounds.dueRound("a round", x, Rounds.r(1, 1, 0, 50), 509999);
    }

    public static void main(String[] args) {
        scriptArguments();
        commands();
        commandsWithoutPower();
        commandsOfServicesAndSlots();
        simulateRounds();
        simulateWithoutPower();
        simulateMuchLost();
        Due.finish();
    }
}
