/** Each sentence about forecasts (promises 31 to 33 and 35) that names a boundary case. */
public final class ForecastBoundaryTest {
    private static final int[] NO_ITEMS = {-1, Integer.MIN_VALUE, Integer.MAX_VALUE};

    public static void main(String[] args) throws IllegalAccessException {
        Check.sentences(ForecastBoundaryTest.class);
    }

    /** Menus 1 to 8 of the root; menu 8 has 7 choices and menu 16, this one has 7 choices. */
    private static KnobMenu wide() {
        KnobMenu x = new KnobMenu();
        for (int i = 0; i < 8; i++) {
            x.addMenu(0);
        }
        for (int i = 0; i < 7; i++) {
            x.addChoice(8, 2);
        }
        x.addMenu(8);
        for (int i = 0; i < 7; i++) {
            x.addChoice(16, 2);
        }
        return x;
    }

    /** A chain of menus 1, 2 and 3 with number 4 at its end. */
    private static KnobMenu deep() {
        KnobMenu x = new KnobMenu();
        x.addMenu(0);
        x.addMenu(1);
        x.addMenu(2);
        x.addNumber(3, 0, 9, 1);
        return x;
    }

    @Sentence(promises = {31, 32, 33}, says = "Throws `IndexOutOfBoundsException` if there is no such item")
    static void forecastsOfNoItem() {
        for (int item : NO_ITEMS) {
            Refused.noSuchEver("pressesTo(" + item + ")", x -> x.pressesTo(item));
            Refused.noSuchEver("detentsTo(" + item + ")", x -> x.detentsTo(item));
            Refused.noSuchEver("codesTo(" + item + ")", x -> x.codesTo(item));
        }
        Refused.noSuchEver("pressesTo(items())", x -> x.pressesTo(x.items()));
        Refused.noSuchEver("detentsTo(items())", x -> x.detentsTo(x.items()));
        Refused.noSuchEver("codesTo(items())", x -> x.codesTo(x.items()));
        Refused.noSuch(ForecastBoundaryTest::wide, "pressesTo(24)", x -> x.pressesTo(24));
        Refused.noSuch(ForecastBoundaryTest::wide, "detentsTo(24)", x -> x.detentsTo(24));
        Refused.noSuch(ForecastBoundaryTest::wide, "codesTo(24)", x -> x.codesTo(24));
    }

    @Sentence(promises = {31}, says = "Returns the level, 0 to 4.")
    static void presses() {
        KnobMenu x = deep();
        for (int i = 0; i <= 4; i++) {
            Check.equal("pressesTo(" + i + ")", x.pressesTo(i), i);
        }
        Check.equal("pressesTo of an item added last", wide().pressesTo(23), 3);
    }

    @Sentence(promises = {31}, says = "the number of presses that lead to it from home, if no item is closed")
    static void closedItemsDoNotMatter() {
        for (Scene scene : Scene.values()) {
            KnobMenu x = scene.get();
            int[] due = {0, 1, 1, 1, 2, 2, 3};
            for (int i = 0; i < due.length; i++) {
                Check.equal("pressesTo(" + i + ") " + scene, x.pressesTo(i), due[i]);
            }
        }
    }

    @Sentence(promises = {32}, says = "Returns the number of detents; 0 for the root.")
    static void detentsToTheRoot() {
        for (Scene scene : Scene.values()) {
            KnobMenu x = scene.get();
            Check.equal("detentsTo(0)", x.detentsTo(0), 0);
            x.set(2, 1);
            Check.equal("detentsTo(0) around", x.detentsTo(0), 0);
        }
        Check.equal("detentsTo(0) of a new object", new KnobMenu().detentsTo(0), 0);
    }

    @Sentence(promises = {32}, says = "the least number of detents by which the cursor gets from 0 to its entry (with the"
        + " present setting 2)")
    static void detentsStoppingAndAround() {
        KnobMenu x = wide();
        int[] root = {0, 1, 2, 3, 4, 3, 2, 1};
        int[] inMenu = {0, 1, 2, 3, 4, 4, 3, 2};
        for (int i = 0; i < 8; i++) {
            Check.equal("in the root", x.detentsTo(1 + i), i);
            Check.equal("in menu 8", x.detentsTo(9 + i), 7 + i);
        }
        for (int i = 0; i < 7; i++) {
            Check.equal("in menu 16", x.detentsTo(17 + i), 14 + i);
        }
        x.set(2, 1);
        for (int i = 0; i < 8; i++) {
            Check.equal("in the root, around", x.detentsTo(1 + i), root[i]);
            Check.equal("in menu 8, around", x.detentsTo(9 + i), 1 + inMenu[i]);
        }
        int[] inLast = {0, 1, 2, 3, 4, 3, 2};
        for (int i = 0; i < 7; i++) {
            Check.equal("in menu 16, around", x.detentsTo(17 + i), 1 + 2 + inLast[i]);
        }
        x.set(2, 0);
        Check.equal("in the root, stopping again", x.detentsTo(8), 7);
    }

    @Sentence(promises = {32}, says = "(with the present setting 2)")
    static void oneAndTwoEntries() {
        for (int around = 0; around <= 1; around++) {
            KnobMenu x = new KnobMenu();
            x.set(2, around);
            x.addMenu(0);
            Check.equal("the only entry", x.detentsTo(1), 0);
            x.addMenu(0);
            Check.equal("the second of two entries", x.detentsTo(2), 1);
            x.addMenu(0);
            Check.equal("the third of three entries", x.detentsTo(3), 2 - around);
            x.addChoice(1, 2);
            Check.equal("the entry before back", x.detentsTo(4), 0);
            x.addChoice(1, 2);
            Check.equal("the second of three entries", x.detentsTo(5), 1);
            x.addChoice(1, 2);
            Check.equal("the third of four entries", x.detentsTo(6), 2);
            x.addChoice(1, 2);
            Check.equal("the fourth of five entries", x.detentsTo(7), 3 - around);
        }
    }

    /** The way that the forecasts tell is walked; less would not do, since each step of it is a least one. */
    @Sentence(promises = {31, 32}, says = "Returns the least number of detents by which an item can be reached from home, if"
        + " no item is closed")
    static void theWayIsWalked() {
        for (int around = 0; around <= 1; around++) {
            for (int item = 1; item < 24; item++) {
                KnobMenu x = wide();
                x.set(2, around);
                int detents = x.detentsTo(item);
                int presses = x.pressesTo(item);
                walk(x, item);
                Check.equal("detents", x.events(0), detents);
                Check.equal("presses, with the one that uses it", x.events(1) + 1, presses);
                Check.equal("chosen()", x.chosen(), item);
            }
        }
    }

    private static void walk(KnobMenu x, int item) {
        int menu = x.menuOf(item);
        if (menu != 0) {
            walk(x, menu);
            x.press();
        }
        int least = 50;
        for (int detents = -8; detents <= 8; detents++) {
            boolean leads = entryAfter(x, detents) == item;
            least = leads && Math.abs(detents) < Math.abs(least) ? detents : least;
        }
        x.turn(least);
    }

    /** The item at the entry to which so many detents lead, in a menu whose items have rising numbers in one row. */
    private static int entryAfter(KnobMenu x, int detents) {
        int first = x.shown() == 0 ? 1 : x.shown() == 8 ? 9 : 17;
        return first + x.ifTurned(detents);
    }

    @Sentence(promises = {32}, says = "Returns the least number of detents by which an item can be reached from home")
    static void detentsFromHomeInEveryScene() {
        int[] due = {0, 0, 1, 2, 0, 1, 1};
        for (Scene scene : Scene.values()) {
            KnobMenu x = scene.get();
            for (int i = 0; i < due.length; i++) {
                Check.equal("detentsTo(" + i + ") " + scene, x.detentsTo(i), due[i]);
            }
        }
    }

    @Sentence(promises = {33}, says = "the number of closed ones among the item and all menus to which it belongs")
    static void codes() {
        KnobMenu x = deep();
        for (int i = 0; i <= 4; i++) {
            Check.equal("codesTo(" + i + ") without locks", x.codesTo(i), 0);
        }
        x.lock(4, 4);
        Check.equal("codesTo(4) with its own lock", x.codesTo(4), 1);
        Check.equal("codesTo(3) with a lock behind it", x.codesTo(3), 0);
        for (int i = 3; i >= 1; i--) {
            x.lock(i, i);
            Check.equal("codesTo(4)", x.codesTo(4), 5 - i);
        }
        for (int i = 0; i <= 4; i++) {
            Check.equal("codesTo(" + i + ") with all locks", x.codesTo(i), i);
        }
        for (int i = 1; i <= 4; i++) {
            Check.equal("the code", Check.enter(x, i), 7);
            Check.equal("codesTo(4) with open ones", x.codesTo(4), 4 - i);
            Check.equal("codesTo(1)", x.codesTo(1), 0);
            x.press();
        }
        x.hold();
        x.hold();
        Check.equal("codesTo(4) at home", x.codesTo(4), 4);
        x.lock(2, -1);
        Check.equal("codesTo(4) with one lock removed", x.codesTo(4), 3);
        Check.equal("codesTo(2)", x.codesTo(2), 1);
    }

    @Sentence(promises = {35}, says = "0.0 if there are no numbers")
    static void noNumbers() {
        Check.equal("fraction() of a new object", new KnobMenu().fraction(), 0.0);
        KnobMenu x = new KnobMenu();
        x.addChoice(0, 9);
        x.addMenu(0);
        Check.edit(x, -1);
        Check.equal("fraction() of a choice", x.fraction(), 0.0);
    }

    @Sentence(promises = {35}, says = "Returns the sum of (value - low limit), as a double, divided by the sum of (high limit"
        + " - low limit), as a double, over all numbers")
    static void fractions() {
        KnobMenu x = new KnobMenu();
        x.addNumber(0, -999, 999, 1);
        Check.equal("at the low limit", x.fraction(), 0.0);
        Check.edit(x, 1);
        Check.equal("one step above it", x.fraction(), 1.0 / 1998.0);
        x.addNumber(0, 998, 999, 1);
        Check.equal("with a second number", x.fraction(), 1.0 / 1999.0);
        x.turn(1);
        Check.edit(x, 1);
        Check.equal("with the second turned up", x.fraction(), 2.0 / 1999.0);
        x.press();
        x.turn(-1);
        Check.equal("a draft does not count", x.fraction(), 2.0 / 1999.0);
        x.hold();
        x.turn(-1);
        x.press();
        for (int i = 0; i < 20; i++) {
            x.turn(50);
        }
        x.press();
        Check.equal("all turned up", x.fraction(), 1.0);
        x.turn(1);
        Check.edit(x, -1);
        Check.equal("one step below that", x.fraction(), 1998.0 / 1999.0);
    }

    @Sentence(promises = {35}, says = "divided by the sum of (high limit - low limit), as a double, over all numbers")
    static void theLeastRange() {
        KnobMenu x = new KnobMenu();
        x.addNumber(0, 998, 999, 1);
        Check.equal("at the low limit", x.fraction(), 0.0);
        Check.edit(x, 1);
        Check.equal("at the high limit", x.fraction(), 1.0);
        x.turn(1);
        Check.edit(x, -1);
        Check.equal("at the low limit again", x.fraction(), 0.0);
    }

    @Sentence(promises = {35}, says = "Returns how far all numbers are turned up, on the average.")
    static void fractionOfTheMostNumbers() {
        KnobMenu x = new KnobMenu();
        for (int i = 0; i < 3; i++) {
            x.addMenu(0);
        }
        for (int i = 4; i < 24; i++) {
            x.addNumber((i - 4) / 8 + 1, -999, 999, 100);
        }
        Check.equal("at the low limits", x.fraction(), 0.0);
        for (int menu = 0; menu < 3; menu++) {
            x.press();
            for (int i = 0; i < (menu < 2 ? 8 : 4); i++) {
                Check.edit(x, 50);
                x.turn(1);
                Check.equal("turned up", x.fraction(), 1998.0 * (8 * menu + i + 1) / (1998.0 * 20.0));
            }
            x.press();
            x.turn(1);
        }
        Check.equal("at the high limits", x.fraction(), 1.0);
    }
}
