/** The boundaries that the document names in "TEXT" and in the promises 2 to 5, sentence by sentence. */
public final class TextBoundsTest {
    private static final int NONE = Due.NONE;
    private static final String DIGITS = "0123456789";
    private static final String COMMANDS = "dcsmr";

    private static OdometerRing with(String text) {
        OdometerRing x = new OdometerRing();
        Due.write(x, text);
        return x;
    }

    private static int errorOf(String text) {
        return with(text).errorPosition();
    }

    /** Behind this text, which is no story, just the named characters are allowed, out of all 256. */
    private static void dueAllowed(String text, String allowed, boolean storyThen) {
        Due.due("the text ends too soon: " + text, errorOf(text), text.length());
        dueAllowedBehind(text, allowed, storyThen ? NONE : text.length() + 1);
    }

    private static void dueAllowedBehind(String text, String allowed, int error) {
        for (char c = 0; c <= 255; c++) {
            int due = allowed.indexOf(c) >= 0 ? error : text.length();
            Due.due("errorPosition() of " + text + " and the character " + (int) c, errorOf(text + c), due);
        }
    }

    /**
     * Every number of so many digits between these texts, which make a story with an allowed one. The error is at the
     * first digit with which no allowed number begins.
     */
    private static void dueNumbers(String before, int digits, int least, int most, String after) {
        int end = digits == 1 ? 10 : digits == 2 ? 100 : 1000;
        for (int number = 0; number < end; number++) {
            String written = Due.digits(number, digits);
            int due = NONE;
            for (int length = digits; length > 0; length--) {
                if (!beginsOne(written.substring(0, length), digits, least, most)) {
                    due = before.length() + length - 1;
                }
            }
            Due.due("errorPosition() of " + before + written + after, errorOf(before + written + after), due);
        }
    }

    private static boolean beginsOne(String beginning, int digits, int least, int most) {
        for (int number = least; number <= most; number++) {
            if (Due.digits(number, digits).startsWith(beginning)) {
                return true;
            }
        }
        return false;
    }

    // ---- the story

    private static void letter() {
        Due.sentence("A story is the letter O");
        dueAllowed("", "O", false);
    }

    private static void slots() {
        Due.sentence("two digits for N (03 to 12)");
        dueNumbers("O", 2, 3, 12, "10100");
        dueAllowed("O", "01", false);
        dueAllowed("O0", "3456789", false);
        dueAllowed("O1", "012", false);
    }

    private static void step() {
        Due.sentence("two for the step (01 to 99)");
        dueNumbers("O04", 2, 1, 99, "100");
        dueAllowed("O04", DIGITS, false);
        dueAllowed("O040", "123456789", false);
        dueAllowed("O041", DIGITS, false);
        dueAllowed("O049", DIGITS, false);
    }

    private static void limit() {
        Due.sentence("three for L (010 to 999)");
        dueNumbers("O0410", 3, 10, 999, "");
        dueAllowed("O0410", DIGITS, false);
        dueAllowed("O04100", "123456789", false);
        dueAllowed("O04101", DIGITS, false);
        dueAllowed("O041001", DIGITS, true);
        dueAllowed("O041099", DIGITS, true);
    }

    private static void anyNumberOfCommands() {
        Due.sentence("and then any number of commands");
        Due.due("no command", errorOf("O0410100"), NONE);
        for (int commands = 1; commands <= 82; commands++) {
            Due.due(commands + " commands", errorOf("O0410100" + "s".repeat(commands)), NONE);
        }
        Due.due("20 commands of four characters", errorOf("O0410100" + "d001c010".repeat(10)), NONE);
        Due.due("an error in the last place", errorOf("O0410100" + "s".repeat(81) + "O"), 89);
        Due.due("too soon in the last place", errorOf("O0410100" + "s".repeat(81) + "d"), 90);
        Due.due("too soon by one", errorOf("O0410100" + "s".repeat(79) + "d99"), 90);
        Due.due("just in time", errorOf("O0410100" + "s".repeat(78) + "d999"), NONE);
        for (String story : new String[] {"O0410100", "O0410100s", "O0410100d001c010m00r00", "O0410100sd001"}) {
            for (char c = 0; c <= 255; c++) {
                int due = c == 's' ? NONE : COMMANDS.indexOf(c) >= 0 ? story.length() + 1 : story.length();
                Due.due("errorPosition() of " + story + " and the character " + (int) c, errorOf(story + c), due);
            }
        }
    }

    private static void drives() {
        Due.sentence("d and three digits (001 to 999)");
        dueNumbers("O0410100d", 3, 1, 999, "");
        dueAllowed("O0410100d", DIGITS, false);
        dueAllowed("O0410100d0", DIGITS, false);
        dueAllowed("O0410100d9", DIGITS, false);
        dueAllowed("O0410100d00", "123456789", true);
        dueAllowed("O0410100d01", DIGITS, true);
        dueAllowed("O0410100d10", DIGITS, true);
        dueAllowed("O0410100d99", DIGITS, true);
    }

    private static void cuts() {
        Due.sentence("c, two digits (01 to 36) and a digit for the kind of a cut (0 to 2)");
        for (int kind = 0; kind <= 2; kind++) {
            dueNumbers("O0410100c", 2, 1, 36, Integer.toString(kind));
        }
        dueNumbers("O0410100c01", 1, 0, 2, "");
        dueNumbers("O0410100c36", 1, 0, 2, "");
        dueAllowed("O0410100c", "0123", false);
        dueAllowed("O0410100c0", "123456789", false);
        dueAllowed("O0410100c1", DIGITS, false);
        dueAllowed("O0410100c2", DIGITS, false);
        dueAllowed("O0410100c3", "0123456", false);
        dueAllowed("O0410100c01", "012", true);
        dueAllowed("O0410100c36", "012", true);
    }

    private static void services() {
        Due.sentence("m and the digits of a kind and a part");
        dueNumbers("O0410100m", 2, 0, 99, "");
        dueAllowed("O0410100m", DIGITS, false);
        dueAllowed("O0410100m0", DIGITS, true);
        dueAllowed("O0410100m9", DIGITS, true);
    }

    private static void replaced() {
        Due.sentence("r and two digits for a slot (less than N)");
        for (int n = 3; n <= 12; n++) {
            String before = Due.head(n, 10, 100) + "r";
            dueNumbers(before, 2, 0, n - 1, "");
            dueAllowed(before, n <= 10 ? "0" : "01", false);
            dueAllowed(before + "0", DIGITS.substring(0, Math.min(n, 10)), true);
            if (n > 10) {
                dueAllowed(before + "1", DIGITS.substring(0, n - 10), true);
            }
        }
    }

    private static void blanks() {
        Due.sentence("There are no blanks.");
        String story = "O0410100d001c010sm00r00";
        Due.due("without blanks", errorOf(story), NONE);
        for (int at = 0; at <= story.length(); at++) {
            String text = story.substring(0, at) + " " + story.substring(at);
            Due.due("errorPosition() of " + text, errorOf(text), at);
        }
    }

    private static void firstCharacter() {
        Due.sentence("The error position is the index of the first character that these rules do not allow at its place (a digit"
            + " is not allowed if no number that is allowed begins with it and those before it)");
        Due.due("two errors", errorOf("x0410100x"), 0);
        Due.due("two errors in the head", errorOf("O1300100"), 2);
        Due.due("an error, and it ends too soon", errorOf("O04101000"), 8);
        Due.due("no number begins with 2", errorOf("O2"), 1);
        Due.due("a number begins with 1", errorOf("O1"), 2);
        Due.due("no number begins with 00", errorOf("O041000"), 6);
        Due.due("a number begins with 01", errorOf("O041001"), 7);
        Due.due("the slots of the head count", errorOf("O0310100r03"), 10);
        Due.due("the slots of another head", errorOf("O0410100r03"), NONE);
    }

    private static void tooSoon() {
        Due.sentence("if the text ends too soon, it is the length of the text.");
        String story = "O0410100d123c361m99r03";
        for (int length = 0; length <= story.length(); length++) {
            boolean ended = length == 8 || length == 12 || length == 16 || length == 19 || length == 22;
            int due = ended ? NONE : length;
            Due.due("errorPosition() of " + story.substring(0, length), errorOf(story.substring(0, length)), due);
        }
        Due.sentence("Returns the error position of the text; NONE if it is a story.");
        Due.due("the shortest story", errorOf("O0410100"), NONE);
        Due.due("one character less", errorOf("O041010"), 7);
        Due.due("no text", errorOf(""), 0);
    }

    private static void oneTextBehindAnother() {
        Due.sentence("Checks the text.");
        String[] texts = {
            "O0410100d000", "O0410100s", "O0410100c013", "O0410100d001", "O04009", "O0410100s", "O0210100", "O1210100r11",
            "O0310100r03", "O1110100r11", "O0410100r03", "", "O", "O0410100m0x", "O0410100s"
        };
        int[] errors = {11, NONE, 11, NONE, 4, NONE, 2, NONE, 10, 10, NONE, 0, 1, 10, NONE};
        OdometerRing x = new OdometerRing();
        for (int k = 0; k < texts.length; k++) {
            Due.write(x, texts[k]);
            Due.due("errorPosition() of " + texts[k] + " behind others", x.errorPosition(), errors[k]);
        }
    }

    // ---- the text buffer

    private static void characters() {
        Due.sentence("c: character code, 0 to 255");
        OdometerRing x = new OdometerRing();
        Due.dueArgument("append(-1)", () -> x.append(-1));
        Due.dueArgument("append(256)", () -> x.append(256));
        Due.dueArgument("the least number", () -> x.append(Integer.MIN_VALUE));
        Due.dueArgument("the greatest number", () -> x.append(Integer.MAX_VALUE));
        Due.due("append(0)", x.append(0), 1);
        Due.due("append(255)", x.append(255), 2);
        for (int c = 0; c <= 255; c++) {
            Due.due("append(" + c + ")", new OdometerRing().append(c), 1);
        }
        // 256 more is no other way to write the same character.
        Due.dueArgument("'O' and 256", () -> x.append('O' + 256));
    }

    private static void mostCharacters() {
        Due.sentence("The object has a text buffer of at most 90 characters.");
        OdometerRing x = new OdometerRing();
        for (int length = 1; length <= 90; length++) {
            Due.due("the character " + length, x.append('s'), length);
        }
        Due.sentence("Throws IllegalStateException if the text already has 90 characters");
        Due.dueState("the 91st character", () -> x.append('s'));
        Due.dueState("the character 255 as the 91st", () -> x.append(255));
        Due.due("it was not taken", x.clearText(), 90);
        Due.due("room again", x.append('s'), 1);
        OdometerRing y = new OdometerRing();
        Due.write(y, "s".repeat(89));
        Due.due("89 characters: one more", y.append('s'), 90);
    }

    private static void previousLength() {
        Due.sentence("Empties the text buffer. Returns the previous length of the text.");
        OdometerRing x = new OdometerRing();
        Due.due("an empty one", x.clearText(), 0);
        x.append('O');
        Due.due("one character", x.clearText(), 1);
        Due.due("empty then", x.clearText(), 0);
        Due.write(x, "O".repeat(90));
        Due.due("a full one", x.clearText(), 90);
        Due.due("nothing is left of it", x.errorPosition(), 0);
        Due.write(x, "O0410100");
        Due.due("a shorter text in its place", x.errorPosition(), NONE);
    }

    // ---- load

    private static void noStory() {
        Due.sentence("Throws IllegalStateException if the text is not a story");
        String[] none = {"", "O", "O041010", "O0410100x", "O0410100d00", "O0410100d000", "O0410100r04", "O0210100"};
        for (String text : none) {
            Due.dueState("load() of " + text, () -> with(text).load());
        }
        String[] stories = {"O0410100", "O0410100s", "O0410100d001", "O0410100r03", "O0310100"};
        int[] leftOut = {0, 1, 0, 0, 0};
        for (int k = 0; k < stories.length; k++) {
            Due.due("load() of " + stories[k], with(stories[k]).load(), leftOut[k]);
        }
    }

    private static void dueHead(int n, int step, int limit) {
        OdometerRing x = Due.ring(n, step, limit);
        Due.due("N", x.about(0), n);
        Due.due("the step", x.about(1), step);
        Due.due("L", x.about(2), limit);
        Due.dueIndex("behind the last slot", () -> x.says(n));
    }

    private static void asTheTextTells() {
        Due.sentence("Makes everything as in a new object, with N, the step and L as the text tells");
        dueHead(3, 1, 10);
        dueHead(12, 99, 999);
        dueHead(9, 10, 100);
        dueHead(10, 9, 99);
        for (String story : new String[] {"O0301010", "O1299999", "O0410100d025m35c021d099s"}) {
            String loaded = Whole.state(Due.told(story));
            for (Made object : Made.all()) {
                OdometerRing x = object.anew.get();
                Due.write(x, story);
                x.load();
                Due.dueText(object.when + ": load() of " + story, Whole.state(x), loaded);
            }
        }
        // From many slots to few and back: the slots that come into being are new.
        OdometerRing x = Due.told("O1201010d120");
        Due.write(x, "O0301010");
        x.load();
        Due.write(x, "O1201010");
        x.load();
        Due.dueText("twelve slots behind three", Whole.state(x), Whole.state(Due.told("O1201010")));
    }

    private static void leftOut() {
        Due.sentence("those that would throw an exception are left out.");
        dueLeftOut("d001", 0);
        dueLeftOut("c010d010d001", 1);
        dueLeftOut("c010d010c010", 1);
        dueLeftOut("s", 1);
        dueLeftOut("c010d010s", 0);
        dueLeftOut("c010d010ss", 1);
        dueLeftOut("m00", 0);
        dueLeftOut("c010d010m00", 1);
        dueLeftOut("m00m01m02m03m04m05m06m07m08m09m10m11", 0);
        dueLeftOut("m00m01m02m03m04m05m06m07m08m09m10m11m12", 1);
        dueLeftOut("m00m01m02m03m04m05m06m07m08m09m10m11m00", 0);
        dueLeftOut("r00", 1);
        dueLeftOut("r01", 0);
        dueLeftOut("d010r01", 1);
        dueLeftOut("d010r00", 0);
        dueLeftOut("c010d010r01", 1);
        Due.sentence("Returns how many commands were left out.");
        dueLeftOut("", 0);
        dueLeftOut("s", 1);
        dueLeftOut("s".repeat(81), 81);
        dueLeftOut("s".repeat(82), 82);
        dueLeftOut("c010d010" + "s".repeat(74), 73);
    }

    private static void dueLeftOut(String commands, int leftOut) {
        Due.due("load() of " + commands, with("O0410100" + commands).load(), leftOut);
    }

    private static void doneBehindOneLeftOut() {
        Due.sentence("and then does its commands, one after the other: drive(), cut(), start(), service() and replace()");
        OdometerRing x = with("O0410100sd025r02m12r00c052d012c021d013d001s");
        Due.due("three are left out", x.load(), 3);
        int[] about = {4, 10, 100, 1, 30, 40, 30, 3, 11, 1, 0, NONE, 0, 1, 1};
        for (int what = 0; what < about.length; what++) {
            Due.due("about(" + what + ")", x.about(what), about[what]);
        }
        Due.due("the service", x.serviceAt(0, 2), 25);
    }

    private static void forgets() {
        Due.sentence("Forgets all remembered states and empties both save slots. Keeps the text.");
        OdometerRing x = with("O0410100d007");
        for (int k = 0; k < 20; k++) {
            x.drive(1);
        }
        x.save(0);
        x.save(1);
        x.load();
        Due.dueState("no state is remembered", x::undo);
        Due.dueState("the save slot 0 is empty", () -> x.restore(0));
        Due.dueState("the save slot 1 is empty", () -> x.restore(1));
        Due.due("the text is a story still", x.errorPosition(), NONE);
        x.drive(3);
        Due.due("an action is remembered again", x.undo(), 0);
        Due.due("as the commands left it", x.about(5), 7);
        Due.due("the length of the text", x.clearText(), 12);
    }

    public static void main(String[] args) {
        letter();
        slots();
        step();
        limit();
        anyNumberOfCommands();
        drives();
        cuts();
        services();
        replaced();
        blanks();
        firstCharacter();
        tooSoon();
        oneTextBehindAnother();
        characters();
        mostCharacters();
        previousLength();
        noStory();
        asTheTextTells();
        leftOut();
        doneBehindOneLeftOut();
        forgets();
        Due.finish();
    }
}
