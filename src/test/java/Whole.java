import java.util.function.Supplier;

/**
 * All that can be seen of an object, as a text: its state, the states that are remembered, the save slots and the text.
 * Most of it can only be seen by calls that change the object, so each look is at an object that is made anew; this also
 * keeps each object far from its 512th call.
 */
final class Whole {
    private Whole() {
    }

    static String seen(Supplier<OdometerRing> made) {
        StringBuilder all = new StringBuilder();
        for (int undone = 0; undone <= 15; undone++) {
            OdometerRing x = made.get();
            for (int k = 0; k < undone; k++) {
                all.append("undo ").append(Due.outcome(x::undo)).append(' ');
            }
            all.append(state(x)).append('\n');
        }
        for (int slot = 0; slot < 2; slot++) {
            all.append(restored(made.get(), slot)).append('\n');
        }
        return all.append(text(made.get())).toString();
    }

    private static String restored(OdometerRing x, int slot) {
        return "restore " + Due.outcome(() -> x.restore(slot)) + " " + state(x);
    }

    /** The length of the text, whether it is a story, and what it loads. */
    private static String text(OdometerRing x) {
        String read = "error " + x.errorPosition() + " load " + Due.outcome(x::load) + " " + state(x);
        return read + " length " + x.clearText();
    }

    /** What can be seen without any change; some 80 calls. */
    static String state(OdometerRing x) {
        StringBuilder all = new StringBuilder("about");
        for (int what = 0; what <= 14; what++) {
            all.append(' ').append(x.about(what));
        }
        all.append(" cells");
        int slots = x.about(0);
        for (int slot = 0; slot < slots; slot++) {
            for (int i = 0; i < 3; i++) {
                all.append(' ').append(x.cell(slot, i, 0)).append('/').append(x.cell(slot, i, 1));
            }
        }
        all.append(" services");
        int services = x.about(14);
        for (int i = 0; i < services; i++) {
            all.append(' ').append(x.serviceAt(i, 0)).append(x.serviceAt(i, 1)).append(':').append(x.serviceAt(i, 2));
        }
        all.append(" cut");
        for (int what = 0; what <= 3; what++) {
            all.append(' ').append(x.lastCut(what));
        }
        return all.toString();
    }
}
