/** What the tests share: it prints every answer that is not the one that is due. */
final class Due {
    interface Call {
        long answer();
    }

    static final int NONE = OdometerRing.NONE;

    private static int wrong = 0;
    private static int checked = 0;
    private static String sentence = "";
    private static int checkedBefore = 0;

    private Due() {
    }

    /** The answers that follow, up to the next sentence, test these words of the document. */
    static void sentence(String words) {
        closeSentence();
        sentence = words;
        checkedBefore = checked;
    }

    private static void closeSentence() {
        if (!sentence.isEmpty() && checked == checkedBefore) {
            wrong++;
            System.out.println("no answer tests the sentence: " + sentence);
        }
        sentence = "";
    }

    static void due(String what, long got, long want) {
        dueText(what, Long.toString(got), Long.toString(want));
    }

    static void dueText(String what, String got, String want) {
        checked++;
        if (!got.equals(want)) {
            wrong++;
            String words = sentence.isEmpty() ? "" : ", by the sentence: " + sentence;
            System.out.println(what + " answered " + got + ", due is " + want + words);
        }
    }

    /** The call's answer, or the name of what it throws. */
    static String outcome(Call call) {
        try {
            return Long.toString(call.answer());
        } catch (RuntimeException thrown) {
            return thrown.getClass().getSimpleName();
        }
    }

    static void dueArgument(String what, Call call) {
        dueText(what, outcome(call), "IllegalArgumentException");
    }

    static void dueState(String what, Call call) {
        dueText(what, outcome(call), "IllegalStateException");
    }

    static void dueIndex(String what, Call call) {
        dueText(what, outcome(call), "IndexOutOfBoundsException");
    }

    static void write(OdometerRing x, String text) {
        x.clearText();
        for (int i = 0; i < text.length(); i++) {
            x.append(text.charAt(i));
        }
    }

    /** A new object into which the story was loaded. */
    static OdometerRing told(String story) {
        OdometerRing x = new OdometerRing();
        write(x, story);
        x.load();
        return x;
    }

    /** A new object with so many slots, this step and this limit. */
    static OdometerRing ring(int n, int step, int limit) {
        return told(head(n, step, limit));
    }

    static String head(int n, int step, int limit) {
        return "O" + digits(n, 2) + digits(step, 2) + digits(limit, 3);
    }

    /** The number's last digits, with zeros before it. */
    static String digits(int number, int width) {
        String all = "000" + number;
        return all.substring(all.length() - width);
    }

    /** Drives also more than one call can, or nothing at all. */
    static void driveFar(OdometerRing x, int tenths) {
        for (int left = tenths; left > 0; left -= 999) {
            x.drive(Math.min(left, 999));
        }
    }

    static void finish() {
        closeSentence();
        System.out.println(wrong == 0 ? checked + " answers are as due" : wrong + " answers are not as due");
        if (wrong != 0 || checked == 0) {
            System.exit(1);
        }
    }
}
