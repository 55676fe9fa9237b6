import java.lang.reflect.Field;
import java.util.Arrays;

/**
 * What no run of calls comes to, made from within by private fields. At no start all slots are silent: the current slot says
 * the stored number, and is neither written nor replaced while it is the current one. And the power of a dead memory never
 * goes off: only a write can cut it, and a dead memory is not written.
 */
public final class UnreachedTest {
    private static Field field(Object owner, String name) throws ReflectiveOperationException {
        Field field = owner.getClass().getDeclaredField(name);
        field.setAccessible(true);
        return field;
    }

    private static Object inside(Object owner, String name) throws ReflectiveOperationException {
        return field(owner, name).get(owner);
    }

    // ---- all slots are silent

    /** The power is off, the told distance would be 30, and all cells of the slots below this one are unreadable. */
    private static OdometerRing silentBelow(int slot) throws ReflectiveOperationException {
        OdometerRing x = Due.told("O0410100d030c010d010");
        int[] numbers = (int[]) inside(inside(inside(x, "state"), "cells"), "numbers");
        Arrays.fill(numbers, 0, 3 * slot, Due.NONE);
        return x;
    }

    private static void dueStart(int silent, int distance, int current) throws ReflectiveOperationException {
        OdometerRing x = silentBelow(silent);
        Due.due(silent + " are silent: the slot before the first that says something", x.says(Math.max(0, silent - 1)),
            silent == 0 ? 0 : Due.NONE);
        Due.due(silent + " are silent: start()", x.start(), distance);
        Due.due(silent + " are silent: the distance", x.about(4), distance);
        Due.due(silent + " are silent: the stored number", x.about(6), distance);
        Due.due(silent + " are silent: the current slot", x.about(7), current);
        x.drive(10);
        Due.due(silent + " are silent: stored behind it", x.about(7), (current + 1) % 4);
        Due.due(silent + " are silent: stored", x.about(6), distance + 10);
    }

    // ---- a dead memory whose power goes off

    /** 31 were driven, 30 of them stored; with the slot 1 new, the next storing would not be in vain. */
    private static OdometerRing deadAndOff() throws ReflectiveOperationException {
        OdometerRing x = Due.told("O0301010d031r01");
        Due.due("dead", x.about(12), 1);
        Object state = inside(x, "state");
        field(state, "on").setBoolean(state, false);
        return x;
    }

    private static void comesToLife() throws ReflectiveOperationException {
        Due.sentence("nothing is stored any more until the power comes on again.");
        OdometerRing x = deadAndOff();
        Due.due("start()", x.start(), 30);
        x.drive(1);
        Due.due("stored again", x.about(6), 31);
        Due.due("in the new slot", x.about(7), 1);
        Due.sentence("The memory is not dead then, until it is found to be so again.");
        OdometerRing y = deadAndOff();
        y.start();
        Due.due("not dead then", y.about(12), 0);
        Due.due("its worst loss is told", y.worstLoss(), 0);
        Due.due("it lasts for one storing", y.lasts(1), 2);
        y.drive(2);
        Due.due("found to be so again", y.about(12), 1);
        Due.sentence("While the power is off, 4, 6 and 7 are NONE, and 12 is 0");
        Due.due("12 of a dead one", deadAndOff().about(12), 0);
    }

    public static void main(String[] args) throws ReflectiveOperationException {
        Due.sentence("if no slot says anything, these are the slot 0, 0 and 0.");
        dueStart(0, 30, 3);
        dueStart(3, 30, 3);
        dueStart(4, 0, 0);
        comesToLife();
        Due.finish();
    }
}
