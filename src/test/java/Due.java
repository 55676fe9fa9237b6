/** What the tests share: it prints every answer that is not the one that is due. */
final class Due {
    interface Call {
        long answer();
    }

    static final int NONE = OdometerRing.NONE;

    private static int wrong = 0;
    private static int checked = 0;

    private Due() {
    }

    static void due(String what, long got, long want) {
        checked++;
        if (got != want) {
            wrong++;
            System.out.println(what + " answered " + got + ", due is " + want);
        }
    }

    static void dueText(String what, String got, String want) {
        checked++;
        if (!got.equals(want)) {
            wrong++;
            System.out.println(what + " answered " + got + ", due is " + want);
        }
    }

    /** The call's answer, or the name of what it throws. */
    static String outcome(Call call) {
        try {
            return Long.toString(call.answer());
        } catch (RuntimeException thrown) {
            return thrown.getClass().getSimpleName();
        }
    }

    static void dueArgument(String what, Call call) {
        dueText(what, outcome(call), "IllegalArgumentException");
    }

    static void dueState(String what, Call call) {
        dueText(what, outcome(call), "IllegalStateException");
    }

    static void dueIndex(String what, Call call) {
        dueText(what, outcome(call), "IndexOutOfBoundsException");
    }

    static void write(OdometerRing x, String text) {
        x.clearText();
        for (int i = 0; i < text.length(); i++) {
            x.append(text.charAt(i));
        }
    }

    /** A new object into which the story was loaded. */
    static OdometerRing told(String story) {
        OdometerRing x = new OdometerRing();
        write(x, story);
        x.load();
        return x;
    }

    static void finish() {
        System.out.println(wrong == 0 ? checked + " answers are as due" : wrong + " answers are not as due");
        if (wrong != 0 || checked == 0) {
            System.exit(1);
        }
    }
}
