import java.util.HashSet;
import java.util.Set;
import java.util.function.Consumer;
import java.util.function.Supplier;

/** Each sentence about action texts and the digest (promises 36 to 40) that names a boundary case. */
public final class ActionTextBoundaryTest {
    private static final String LONGEST =
        "p,p,p,p,p,p,p,p,p,p,p,p,p,p,p,p,p,p,p,p,p,p,p,p,p,p,p,p,p,t5";

    private static final Set<String> ACTIONS = new HashSet<>();
    private static final Set<String> BEGINNINGS = new HashSet<>();

    static {
        ACTIONS.add("p");
        ACTIONS.add("h");
        for (int i = 1; i <= 99; i++) {
            ACTIONS.add("t" + i);
            if (i <= 50) {
                ACTIONS.add("r" + i);
                ACTIONS.add("l" + i);
            }
        }
        for (String action : ACTIONS) {
            for (int i = 0; i <= action.length(); i++) {
                BEGINNINGS.add(action.substring(0, i));
            }
        }
    }

    public static void main(String[] args) throws IllegalAccessException {
        Check.sentences(ActionTextBoundaryTest.class);
    }

    private static KnobMenu typed(String text) {
        KnobMenu x = new KnobMenu();
        x.addNumber(0, 0, 100, 1);
        x.addMenu(0);
        x.addChoice(2, 4);
        Check.type(x, text);
        return x;
    }

    /** Whether some action text begins with this text: all actions but the last one are whole. */
    private static boolean begins(String text) {
        int comma = text.lastIndexOf(',');
        return BEGINNINGS.contains(text.substring(comma + 1)) && (comma < 0 || isText(text.substring(0, comma)));
    }

    private static boolean isText(String text) {
        for (String action : text.split(",", -1)) {
            if (!ACTIONS.contains(action)) {
                return false;
            }
        }
        return true;
    }

    private static int errorOf(String text) {
        for (int i = 0; i < text.length(); i++) {
            if (!begins(text.substring(0, i + 1))) {
                return i;
            }
        }
        return text.length();
    }

    private static void error(String text, int due) {
        KnobMenu x = typed(text);
        Check.equal("firstError() of " + text, x.firstError(), due);
        Check.equal("firstError() of " + text + " again", x.firstError(), due);
        Check.equal("the test's own grammar of " + text, errorOf(text), due);
        Check.equal("clearText()", x.clearText(), text.length());
    }

    private static void right(String text) {
        error(text, text.length());
    }

    private static void runs(String text, int due) {
        KnobMenu x = typed(text);
        Check.equal("run() of " + text, x.run(), due);
        Check.equal("clearText() after run()", x.clearText(), 0);
    }

    private static void refuses(String text) {
        Refused.badArgument(() -> typed(text), "run() of " + text, x -> x.run());
        KnobMenu x = typed(text);
        try {
            x.run();
        } catch (IllegalArgumentException e) {
            Check.equal("the buffer stays", x.clearText(), text.length());
        }
    }

    @Sentence(promises = {36}, says = "`code`: a character code, 33 to 126")
    static void rangeOfSigns() {
        for (int code = 33; code <= 126; code++) {
            Check.equal("append(" + code + ")", new KnobMenu().append(code), 1);
        }
        int[] bad = {32, 127, 0, -1, 128, 255, 256 + 'p', 65536 + 'p', Integer.MIN_VALUE, Integer.MAX_VALUE};
        for (int code : bad) {
            Refused.badArgumentEver("append(" + code + ")", x -> x.append(code));
        }
    }

    @Sentence(promises = {36}, says = "The buffer contains at most 60 characters and is empty at first.")
    static void lengthOfTheBuffer() {
        KnobMenu x = new KnobMenu();
        Check.equal("firstError() at first", x.firstError(), 0);
        Check.equal("clearText() at first", x.clearText(), 0);
        for (int i = 1; i <= 60; i++) {
            Check.equal("append", x.append('!'), i);
        }
        Check.equal("firstError() of signs that are wrong", x.firstError(), 0);
        Check.equal("clearText()", x.clearText(), 60);
        Check.equal("append to the empty buffer", x.append('p'), 1);
    }

    @Sentence(promises = {36}, says = "Throws `IllegalStateException` if the buffer contains 60 characters")
    static void aFullBuffer() {
        Supplier<KnobMenu> full = () -> typed(LONGEST);
        Check.equal("the length of the text", LONGEST.length(), 60);
        Refused.badState(full, "append('1')", x -> x.append('1'));
        Refused.badState(full, "append(33)", x -> x.append(33));
        Refused.badState(full, "append(126)", x -> x.append(126));
        Refused.badArgument(full, "append(32)", x -> x.append(32));
        Refused.badArgument(full, "append(127)", x -> x.append(127));
        Check.equal("the 60th sign", typed(LONGEST.substring(1)).append('1'), 60);
        KnobMenu x = full.get();
        x.run();
        Check.equal("append after run()", x.append('1'), 1);
    }

    @Sentence(promises = {37}, says = "Returns the length that it had.")
    static void clearedTexts() {
        int[] lengths = {0, 1, 59, 60};
        for (int length : lengths) {
            KnobMenu x = typed(LONGEST.substring(0, length));
            Check.equal("clearText()", x.clearText(), length);
            Check.equal("clearText() again", x.clearText(), 0);
            Check.equal("firstError()", x.firstError(), 0);
            Refused.badArgument(() -> cleared(length), "run() of nothing", y -> y.run());
        }
    }

    private static KnobMenu cleared(int length) {
        KnobMenu x = typed(LONGEST.substring(0, length));
        x.clearText();
        return x;
    }

    @Sentence(promises = {38}, says = "the length of the buffer if there is none (also if the buffer is not a complete action"
        + " text)")
    static void noError() {
        right("");
        right("p");
        right("r");
        right("p,");
        right("p,l");
        right("t9,");
        right(LONGEST);
        right(LONGEST.substring(0, 59));
        right(LONGEST.substring(0, 58));
    }

    @Sentence(promises = {38}, says = "A character of the buffer is an error if no action text, however long, begins with the"
        + " characters before it and this character.")
    static void beginningsOfLongerTexts() {
        String most = LONGEST.substring(0, 58);
        right(most + "p,");
        right(most + "h,");
        right(most + "r1");
        right(most + "l5");
        right(most + "t");
        right(most + "t9");
        right(LONGEST.substring(0, 56) + "t99,");
        right(LONGEST.substring(0, 56) + "p,p,");
        error(LONGEST.substring(0, 56) + "p,pp", 59);
        error(LONGEST.substring(0, 56) + "p,,p", 58);
        error(LONGEST.substring(0, 56) + "t100", 59);
        error(LONGEST.substring(0, 56) + "r51,", 58);
    }

    @Sentence(promises = {38}, says = "\"r\" and a number from 1 to 50 (like turn() to the right), \"l\" and a number from 1"
        + " to 50 (like turn() to the left)")
    static void numbersOfTurns() {
        String[] verbs = {"r", "l"};
        for (String verb : verbs) {
            for (int i = 1; i <= 50; i++) {
                right(verb + i + ",");
                runs(verb + i, 0);
            }
            for (int i = 51; i <= 99; i++) {
                error(verb + i, 2);
                refuses(verb + i);
            }
            error(verb + "0", 1);
            error(verb + "100", 3);
            error(verb + "500", 3);
            error(verb + "501", 3);
        }
    }

    @Sentence(promises = {38}, says = "or \"t\" and a number from 1 to 99 (like tick())")
    static void numbersOfTicks() {
        for (int i = 1; i <= 99; i++) {
            right("t" + i + ",");
            KnobMenu x = typed("t" + i);
            Check.equal("run()", x.run(), 0);
            Check.equal("events(7)", x.events(7), i);
        }
        error("t0", 1);
        error("t100", 3);
        error("t990", 3);
        error("t999", 3);
        refuses("t0");
        refuses("t100");
    }

    @Sentence(promises = {38}, says = "Numbers have no leading zeros.")
    static void leadingZeros() {
        String[] verbs = {"r", "l", "t"};
        for (String verb : verbs) {
            error(verb + "01", 1);
            error(verb + "00", 1);
            error("p," + verb + "09", 3);
            right(verb + "10");
            right(verb + "40");
            refuses(verb + "01");
        }
    }

    @Sentence(promises = {38, 39}, says = "An action text is one or more actions with \",\" between them.")
    static void commas() {
        error(",", 0);
        error(",p", 0);
        error("p,,", 2);
        error("p,,p", 2);
        error("r,", 1);
        error("r1,,", 3);
        error("pp", 1);
        error("p1", 1);
        error("h,p,r1p", 6);
        String[] bad = {"", ",", "p,", ",p", "p,,p", "r", "r,", "r1,", "p,l", "pp", "p,t", LONGEST.substring(0, 59)};
        for (String text : bad) {
            refuses(text);
        }
        runs("p", 3);
        runs("h", 0);
        runs("p,p", 7);
    }

    @Sentence(promises = {38, 39}, says = "Returns the index of the first character that is an error")
    static void everyShortText() {
        String signs = "rlpht01459,x";
        String[] heads = {"", "p,", "r1", "t9", "l5"};
        for (String head : heads) {
            for (int i = 0; i < 12 * 12 * 12; i++) {
                char[] tail = {signs.charAt(i / 144), signs.charAt(i / 12 % 12), signs.charAt(i % 12)};
                String text = head + new String(tail);
                KnobMenu x = typed(text);
                Check.equal("firstError() of " + text, x.firstError(), errorOf(text));
                Check.equal("run() takes " + text, taken(x) ? 1 : 0, isText(text) ? 1 : 0);
                Check.equal("the buffer after run() of " + text, x.clearText(), isText(text) ? 0 : text.length());
            }
        }
    }

    private static boolean taken(KnobMenu x) {
        try {
            x.run();
            return true;
        } catch (IllegalArgumentException e) {
            return false;
        }
    }

    @Sentence(promises = {38}, says = "Returns the index of the first character that is an error")
    static void everySign() {
        String[] heads = {"", "p", "h", "r", "l", "t", "p,", "r4", "r5", "r6", "l10", "t1", "t99"};
        for (String head : heads) {
            for (int sign = 33; sign <= 126; sign++) {
                String text = head + (char) sign;
                Check.equal("firstError() of " + text, typed(text).firstError(), errorOf(text));
            }
        }
    }

    @Sentence(promises = {39}, says = "Throws `IllegalArgumentException` if the buffer is not a complete action text (the"
        + " buffer stays)")
    static void anIncompleteText() {
        Refused.badArgument(KnobMenu::new, "run() of an empty buffer", x -> x.run());
        refuses("p,p,p,x");
        refuses("x");
        refuses(LONGEST.substring(0, 58) + "p,");
        refuses(LONGEST.substring(0, 58) + "pp");
        refuses(LONGEST.substring(0, 57) + ",,p");
        KnobMenu x = typed("p,r");
        Check.equal("append what is missing", x.append('7'), 4);
        Check.equal("run()", x.run(), 3);
        Refused.badArgument(() -> ran("p,r7"), "run() again", y -> y.run());
    }

    private static KnobMenu ran(String text) {
        KnobMenu x = typed(text);
        x.run();
        return x;
    }

    @Sentence(promises = {39}, says = "Returns the sum of the results of all presses.")
    static void sumOfResults() {
        runs("r1", 0);
        runs("l1", 0);
        runs("t1", 0);
        runs("h", 0);
        runs("p,h", 3);
        runs("p,t10", 3);
        runs("r1,p,p,t99", 5);
        runs("p,r3,p", 7);
        runs("p,r3,p,p", 10);
        runs("r1,p,p,r1,p,r1,p,h", 2 + 3 + 4 + 1);
        KnobMenu x = new KnobMenu();
        Check.type(x, "p");
        Check.equal("run() without an entry", x.run(), 0);
        KnobMenu y = typed("p,p,p,p,p,p,p,p,p,p,p,p,p,p,p,p");
        y.lock(1, 1);
        Check.equal("run() until it is barred", y.run(), 3 * (5 + 6 * 3 + 8) + 9);
        Check.equal("barred()", y.barred(), 30);
    }

    @Sentence(promises = {39}, says = "Executes the actions in the buffer, and empties the buffer.")
    static void theLongestText() {
        KnobMenu x = typed(LONGEST);
        KnobMenu y = typed("");
        int due = 0;
        for (int i = 0; i < 29; i++) {
            due += y.press();
        }
        y.tick(5);
        Check.equal("run()", x.run(), due);
        Check.equal("digest()", x.digest(), y.digest());
        Check.equal("events(1)", x.events(1), 29);
        Check.equal("idle()", x.idle(), 5);
        Check.equal("clearText()", x.clearText(), 0);
    }

    @Sentence(promises = {36, 39}, says = "and empties the buffer")
    static void oneTextAfterAnother() {
        KnobMenu x = typed("p,r9,t2,p");
        Check.equal("run() of the first text", x.run(), 7);
        Check.equal("value(1)", x.value(1), 18);
        String[] texts = {"p", "r3", "p", LONGEST};
        int[] due = {3, 0, 4, 3 * 15 + 4 * 14};
        for (int i = 0; i < texts.length; i++) {
            Check.type(x, texts[i]);
            Check.equal("run() of " + texts[i], x.run(), due[i]);
        }
        Check.equal("value(1)", x.value(1), 21);
        Check.equal("events(1)", x.events(1), 33);
        Check.type(x, "h,r2,p,r50,p");
        Check.equal("run() of the last text", x.run(), 3);
    }

    @Sentence(promises = {39}, says = "An action is \"r\" and a number from 1 to 50 (like turn() to the right)")
    static void actionsAreLikeCalls() {
        for (Scene scene : Scene.values()) {
            like(scene, "r1", x -> x.turn(1));
            like(scene, "r50", x -> x.turn(50));
            like(scene, "l1", x -> x.turn(-1));
            like(scene, "l50", x -> x.turn(-50));
            like(scene, "h", x -> x.hold());
            like(scene, "t1", x -> x.tick(1));
            like(scene, "t99", x -> x.tick(99));
            like(scene, "p", x -> x.press());
        }
    }

    private static void like(Scene scene, String text, Consumer<KnobMenu> call) {
        Supplier<KnobMenu> called = () -> {
            KnobMenu x = scene.get();
            x.clearText();
            call.accept(x);
            return x;
        };
        Supplier<KnobMenu> run = () -> {
            KnobMenu x = scene.get();
            x.clearText();
            Check.type(x, text);
            x.run();
            return x;
        };
        Twin.same(text + " in " + scene, run, called);
    }

    @Sentence(promises = {40}, says = "The hash starts at 4364.")
    static void digestOfANewObject() {
        long hash = 4364;
        int[] values = {1, 0, 0, 0, -1, 0, 0, 0, 0, 0, 0, -1, 0, 0, 0, 0, 0, 0, 0, 0, 0, 0};
        for (int value : values) {
            hash = 31 * hash + value;
        }
        String lines = Check.wide("MENU 0", "") + Check.wide("", "");
        for (int i = 0; i < 32; i++) {
            hash = 31 * hash + lines.charAt(i);
        }
        Check.equal("digest()", new KnobMenu().digest(), 31 * hash);
    }

    @Sentence(promises = {40}, says = "For each value v of the following list, in order, the hash becomes 31 * hash + v, in"
        + " long arithmetic with overflow.")
    static void digestInEveryScene() {
        for (Scene scene : Scene.values()) {
            Check.equal("digest() " + scene, scene.get().digest(), Check.digestOf(scene.get()));
        }
        Check.equal("digest() of a new object", new KnobMenu().digest(), Check.digestOf(new KnobMenu()));
    }

    @Sentence(promises = {40}, says = "the bits of fraction(), converted to float (as Float.floatToIntBits)")
    static void bitsOfTheFraction() {
        int[] highs = {1, 2, 3, 7, 10, 97, 999};
        for (int high : highs) {
            KnobMenu x = new KnobMenu();
            x.addNumber(0, 0, high, 1);
            Check.equal("digest() of 0.0", x.digest(), Check.digestOf(x));
            Check.edit(x, 1);
            Check.equal("digest() of the least part", x.digest(), Check.digestOf(x));
            Check.edit(x, 50);
            Check.equal("digest() of more", x.digest(), Check.digestOf(x));
        }
    }

    @Sentence(promises = {40}, says = "the bits of fraction(), converted to float (as Float.floatToIntBits)")
    static void bitsOfTheLeastAndTheMost() {
        KnobMenu x = new KnobMenu();
        for (int i = 0; i < 3; i++) {
            x.addMenu(0);
        }
        for (int i = 4; i < 24; i++) {
            x.addNumber((i - 4) / 8 + 1, -999, 999, 1);
        }
        x.press();
        Check.edit(x, 1);
        Check.equal("digest() of 1 of 39960", x.digest(), Check.digestOf(x));
        KnobMenu y = new KnobMenu();
        y.addNumber(0, -999, 999, 100);
        Check.edit(y, 50);
        Check.equal("digest() of 1.0", y.digest(), Check.digestOf(y));
        Check.edit(y, -1);
        Check.equal("digest() of nearly 1.0", y.digest(), Check.digestOf(y));
    }

    @Sentence(promises = {40}, says = "Computes a hash of the state.")
    static void theDigestChangesNothing() {
        for (Scene scene : Scene.values()) {
            Supplier<KnobMenu> asked = () -> {
                KnobMenu x = scene.get();
                x.digest();
                return x;
            };
            Twin.same("digest()", asked, scene);
        }
    }
}
