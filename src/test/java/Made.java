import java.util.List;
import java.util.function.Supplier;

/** Objects of different kinds, each of which can be made as often as it is needed. */
final class Made {
    final String when;
    final Supplier<OdometerRing> anew;
    /** All that can be seen of it. */
    final String seen;

    private Made(String when, Supplier<OdometerRing> anew) {
        this.when = when;
        this.anew = anew;
        seen = Whole.seen(anew);
    }

    static List<Made> all() {
        return List.of(
            new Made("a new one", OdometerRing::new),
            new Made("in use", Made::inUse),
            new Made("off", Made::off),
            new Made("off, in use", Made::offInUse),
            new Made("full", Made::full),
            new Made("worn", Made::worn),
            new Made("dead", Made::dead));
    }

    /** 17 actions, so that 14 are remembered, both save slots full, a cut set, and a text that is no story. */
    static OdometerRing inUse() {
        OdometerRing x = Due.told("O0310100d015m35");
        x.service(1, 2);
        x.drive(14);
        x.save(0);
        x.cut(2, 1);
        x.drive(99);
        x.start();
        x.save(1);
        for (int k = 1; k <= 11; k++) {
            x.drive(k);
        }
        x.setStep(7);
        x.cut(9, 2);
        x.append('x');
        return x;
    }

    /** 15 were driven, a service noted, and the power was cut at 20, on the cell 1 of the slot 2; it tells 10. */
    static OdometerRing off() {
        return Due.told("O0410100d015m35c021d005");
    }

    static OdometerRing offInUse() {
        OdometerRing x = inUse();
        x.service(9, 9);
        x.drive(99);
        return x;
    }

    /** Twelve services, a text of 90 characters that is a story, and one save slot full. */
    static OdometerRing full() {
        OdometerRing x = Due.told("O0310100m00m01m02m03m04m05m06m07m08m09m10m11d015r02d001c050m00" + "s".repeat(28));
        x.drive(30);
        x.save(1);
        x.setStep(11);
        return x;
    }

    /** All slots are stuck but the current one; a cut fell behind one slot in vain, and another is set. */
    static OdometerRing worn() {
        return Due.told("O0301010m12d030m35c042d001sc010");
    }

    /** 39 were driven, 30 of them stored; a service is noted at 0, and 14 states are remembered. */
    static OdometerRing dead() {
        OdometerRing x = Due.told("O0301010m35d025");
        for (int k = 0; k < 14; k++) {
            x.drive(1);
        }
        return x;
    }
}
