import java.lang.reflect.Field;
import java.util.Arrays;

/**
 * The start at which no slot says anything. No run of calls comes to it: the current slot says the stored number, and is
 * neither written nor replaced while it is the current one. So this test makes cells unreadable from within.
 */
public final class SilentMemoryTest {
    private static Object inside(Object owner, String name) throws ReflectiveOperationException {
        Field field = owner.getClass().getDeclaredField(name);
        field.setAccessible(true);
        return field.get(owner);
    }

    /** The power is off, the told distance would be 30, and all cells of the slots below this one are unreadable. */
    private static OdometerRing silentBelow(int slot) throws ReflectiveOperationException {
        OdometerRing x = Due.told("O0410100d030c010d010");
        int[] numbers = (int[]) inside(inside(inside(x, "state"), "cells"), "numbers");
        Arrays.fill(numbers, 0, 3 * slot, Due.NONE);
        return x;
    }

    private static void dueStart(int silent, int distance, int current) throws ReflectiveOperationException {
        OdometerRing x = silentBelow(silent);
        Due.due(silent + " are silent: the slot before the first that says something", x.says(Math.max(0, silent - 1)),
            silent == 0 ? 0 : Due.NONE);
        Due.due(silent + " are silent: start()", x.start(), distance);
        Due.due(silent + " are silent: the distance", x.about(4), distance);
        Due.due(silent + " are silent: the stored number", x.about(6), distance);
        Due.due(silent + " are silent: the current slot", x.about(7), current);
        x.drive(10);
        Due.due(silent + " are silent: stored behind it", x.about(7), (current + 1) % 4);
        Due.due(silent + " are silent: stored", x.about(6), distance + 10);
    }

    public static void main(String[] args) throws ReflectiveOperationException {
        Due.sentence("if no slot says anything, these are the slot 0, 0 and 0.");
        dueStart(0, 30, 3);
        dueStart(3, 30, 3);
        dueStart(4, 0, 0);
        Due.finish();
    }
}
