/** Each sentence about what the device tells of itself (promises 19 to 29) that names a boundary case. */
public final class QueriesBoundaryTest {
    public static void main(String[] args) throws IllegalAccessException {
        Check.sentences(QueriesBoundaryTest.class);
    }

    private static void displays(KnobMenu x, String line0, String line1) {
        Check.equal("line 0", Check.line(x, 0), line0);
        Check.equal("line 1", Check.line(x, 1), line1);
    }

    /** Menus 1 to 8 of the root; menu 1 has numbers 9 to 16, menu 2 has choices 17 to 23. */
    private static KnobMenu full() {
        KnobMenu x = new KnobMenu();
        for (int i = 0; i < 8; i++) {
            x.addMenu(0);
        }
        for (int i = 0; i < 8; i++) {
            x.addNumber(1, -999 + i, 999, 1);
        }
        for (int i = 0; i < 7; i++) {
            x.addChoice(2, 9);
        }
        return x;
    }

    private static KnobMenu number(int low, int high) {
        KnobMenu x = new KnobMenu();
        x.addNumber(0, low, high, 1);
        return x;
    }

    @Sentence(promises = {19}, says = "The device is browsing (mode 0), editing an item (mode 1), or asking for the code of"
        + " an item (mode 2).")
    static void modes() {
        int[] due = {0, 0, 0, 0, 1, 1, 2, 0, 0, 0};
        for (Scene scene : Scene.values()) {
            Check.equal("mode() " + scene, scene.get().mode(), due[scene.ordinal()]);
        }
        Check.equal("mode() of a new object", new KnobMenu().mode(), 0);
    }

    @Sentence(promises = {20}, says = "Returns the number of the menu that the device shows (also while it edits or asks for"
        + " a code).")
    static void shownMenus() {
        int[] due = {0, 0, 1, 1, 0, 0, 1, 0, 1, 0};
        for (Scene scene : Scene.values()) {
            Check.equal("shown() " + scene, scene.get().shown(), due[scene.ordinal()]);
        }
        KnobMenu x = full();
        x.turn(1);
        x.press();
        x.turn(6);
        x.press();
        Check.equal("shown() while it edits item 23", x.shown(), 2);
    }

    @Sentence(promises = {22}, says = "Returns the number of the chosen item; NONE if back is chosen, or there is no entry.")
    static void chosenItems() {
        int[] due = {1, 2, 5, -1, 2, 3, 4, 1, 4, 1};
        for (Scene scene : Scene.values()) {
            Check.equal("chosen() " + scene, scene.get().chosen(), due[scene.ordinal()]);
        }
        Check.equal("chosen() without an entry", new KnobMenu().chosen(), KnobMenu.NONE);
        KnobMenu x = full();
        x.turn(7);
        Check.equal("chosen() at the last entry of the root", x.chosen(), 8);
        x.press();
        Check.equal("chosen() in an empty menu", x.chosen(), KnobMenu.NONE);
        x.press();
        x.turn(-50);
        x.press();
        x.turn(7);
        Check.equal("chosen() at the last item", x.chosen(), 16);
        x.turn(1);
        Check.equal("chosen() behind the last item", x.chosen(), KnobMenu.NONE);
    }

    @Sentence(promises = {23}, says = "Returns the draft; 0 if the device is not editing.")
    static void drafts() {
        int[] due = {0, 0, 0, 0, 21, 3, 0, 0, 0, 0};
        for (Scene scene : Scene.values()) {
            Check.equal("draft() " + scene, scene.get().draft(), due[scene.ordinal()]);
        }
        KnobMenu x = number(-999, 999);
        x.press();
        Check.equal("the lowest draft", x.draft(), -999);
        x.turn(50);
        x.press();
        Check.equal("draft() after the edit", x.draft(), 0);
        x.press();
        x.tick(10);
        Check.equal("draft() after the timeout", x.draft(), 0);
    }

    @Sentence(promises = {25}, says = "Returns the number of ticks for which the device is barred; 0 if it is not barred.")
    static void barredTicks() {
        for (Scene scene : Scene.values()) {
            Check.equal("barred() " + scene, scene.get().barred(), scene == Scene.BARRED ? 28 : 0);
        }
    }

    @Sentence(promises = {26}, says = "Returns the number of edits in the log.")
    static void loggedEdits() {
        KnobMenu x = number(0, 99);
        for (int i = 0; i < 10; i++) {
            Check.equal("logged()", x.logged(), Math.min(i, 8));
            Check.edit(x, 1);
        }
    }

    @Sentence(promises = {27}, says = "The device is at home if it is browsing, shows the root, the cursor is 0, and no item"
        + " with a lock is open.")
    static void whatKeepsItFromBeingAtHome() {
        for (Scene scene : Scene.values()) {
            Check.equal("isHome() " + scene, scene.get().isHome() ? 1 : 0, scene.isAtHome() ? 1 : 0);
        }
        KnobMenu x = Scene.OPENED.get();
        Check.equal("mode()", x.mode(), 0);
        Check.equal("shown()", x.shown(), 0);
        Check.equal("cursor()", x.cursor(), 0);
        KnobMenu y = number(0, 9);
        y.press();
        Check.isFalse("isHome() while it edits the first entry", y.isHome());
        y.press();
        Check.isTrue("isHome() after it", y.isHome());
        y.lock(1, 5);
        y.press();
        Check.isFalse("isHome() while it asks at the first entry", y.isHome());
        y.hold();
        Check.isTrue("isHome() after it", y.isHome());
    }

    @Sentence(promises = {27}, says = "no item with a lock is open")
    static void eachOpenItemCounts() {
        for (int item = 1; item <= 8; item++) {
            KnobMenu x = full();
            x.lock(item, 40);
            x.turn(item - 1);
            Check.equal("the code", Check.enter(x, 40), 7);
            x.turn(-50);
            Check.isFalse("isHome() with an open item", x.isHome());
            x.hold();
            Check.isTrue("isHome() when it is closed", x.isHome());
        }
        KnobMenu x = full();
        x.lock(23, 40);
        x.turn(1);
        x.press();
        x.turn(6);
        Check.equal("the code of the last item", Check.enter(x, 40), 7);
        x.turn(50);
        x.press();
        x.turn(-50);
        Check.isFalse("isHome() with an open item in a menu", x.isHome());
        Check.equal("cursor()", x.cursor(), 0);
        Check.equal("shown()", x.shown(), 0);
    }

    @Sentence(promises = {28}, says = "Throws `IndexOutOfBoundsException` if there is no such line or column")
    static void noSuchLineOrColumn() {
        int[] lines = {-1, 2, Integer.MIN_VALUE, Integer.MAX_VALUE};
        int[] columns = {-1, 16, Integer.MIN_VALUE, Integer.MAX_VALUE};
        for (int line : lines) {
            Refused.noSuchEver("display(" + line + ", 0)", x -> x.display(line, 0));
            Refused.noSuchEver("display(" + line + ", 15)", x -> x.display(line, 15));
        }
        for (int column : columns) {
            Refused.noSuchEver("display(0, " + column + ")", x -> x.display(0, column));
            Refused.noSuchEver("display(1, " + column + ")", x -> x.display(1, column));
            Refused.noSuchEver("display(-1, " + column + ")", x -> x.display(-1, column));
        }
    }

    @Sentence(promises = {28}, says = "Each line has 16 columns, numbered from 0.")
    static void firstAndLastColumn() {
        KnobMenu x = number(-7, 9);
        Check.equal("display(0, 0)", x.display(0, 0), 'M');
        Check.equal("display(0, 15)", x.display(0, 15), ' ');
        Check.equal("display(1, 0)", x.display(1, 0), 'N');
        Check.equal("display(1, 14)", x.display(1, 14), '-');
        Check.equal("display(1, 15)", x.display(1, 15), '7');
    }

    @Sentence(promises = {28}, says = "The name of an item is \"MENU\", \"NUMBER\" or \"CHOICE\", then a space, and then the"
        + " number of the item without leading zeros.")
    static void namesOfItems() {
        KnobMenu x = full();
        for (int i = 1; i <= 8; i++) {
            displays(x, Check.wide("MENU 0", ""), Check.wide("MENU " + i, ">"));
            x.turn(1);
        }
        x.turn(-50);
        x.press();
        for (int i = 9; i <= 11; i++) {
            displays(x, Check.wide("MENU 1", ""), Check.wide("NUMBER " + i, "" + (-999 + i - 9)));
            x.turn(1);
        }
    }

    @Sentence(promises = {28}, says = "the number of the item without leading zeros")
    static void namesOfTheLastItems() {
        KnobMenu x = full();
        x.turn(1);
        x.press();
        x.turn(2);
        for (int i = 19; i <= 23; i++) {
            displays(x, Check.wide("MENU 2", ""), Check.wide("CHOICE " + i, "0"));
            x.turn(1);
        }
        displays(x, Check.wide("MENU 2", ""), Check.wide("BACK", ""));
        KnobMenu y = Scene.FULL.get();
        y.turn(7);
        displays(y, Check.wide("MENU 0", ""), Check.wide("MENU 11", ">"));
        y.press();
        displays(y, Check.wide("MENU 11", ""), Check.wide("BACK", ""));
    }

    @Sentence(promises = {28},
        says = "Line 1 begins with the name of the chosen item, or with \"BACK\", or it is empty if there is no entry.")
    static void noEntryAndBack() {
        displays(new KnobMenu(), Check.wide("MENU 0", ""), Check.wide("", ""));
        KnobMenu x = full();
        x.turn(2);
        x.press();
        displays(x, Check.wide("MENU 3", ""), Check.wide("BACK", ""));
        displays(Scene.ON_BACK.get(), Check.wide("MENU 1", ""), Check.wide("BACK", ""));
    }

    @Sentence(promises = {28}, says = "If an item is chosen, line 1 ends (in column 15) with \"L\" if the item is closed;"
        + " otherwise with \">\" if it is a menu, and with its value if it is a number or a choice.")
    static void theEndOfLine1() {
        KnobMenu x = new KnobMenu();
        x.addMenu(0);
        x.addNumber(0, -50, 50, 1);
        x.addChoice(0, 4);
        String[] names = {"MENU 1", "NUMBER 2", "CHOICE 3"};
        String[] ends = {">", "-50", "0"};
        for (int i = 0; i < 3; i++) {
            x.turn(i);
            displays(x, Check.wide("MENU 0", ""), Check.wide(names[i], ends[i]));
            x.hold();
            x.lock(i + 1, 8);
            x.turn(i);
            displays(x, Check.wide("MENU 0", ""), Check.wide(names[i], "L"));
            Check.equal("the code", Check.enter(x, 8), 7);
            displays(x, Check.wide("MENU 0", ""), Check.wide(names[i], ends[i]));
            x.hold();
        }
    }

    @Sentence(promises = {28}, says = "A negative value begins with \"-\". Values have no leading zeros.")
    static void values() {
        int[] values = {-999, -998, -101, -100, -99, -11, -10, -9, -2, -1, 0, 1, 9, 10, 11, 99, 100, 101, 998};
        for (int value : values) {
            KnobMenu x = number(value, 999);
            displays(x, Check.wide("MENU 0", ""), Check.wide("NUMBER 1", "" + value));
            x.press();
            displays(x, Check.wide("EDIT 1", ""), Check.wide("", "" + value));
        }
        KnobMenu x = number(998, 999);
        Check.edit(x, 1);
        displays(x, Check.wide("MENU 0", ""), Check.wide("NUMBER 1", "999"));
    }

    @Sentence(promises = {28},
        says = "Editing: line 0 begins with \"EDIT\", a space and the number of the item. Line 1 ends with the draft.")
    static void editing() {
        displays(Scene.EDITING_NUMBER.get(), Check.wide("EDIT 2", ""), Check.wide("", "21"));
        displays(Scene.EDITING_CHOICE.get(), Check.wide("EDIT 3", ""), Check.wide("", "3"));
        KnobMenu x = full();
        x.press();
        x.press();
        displays(x, Check.wide("EDIT 9", ""), Check.wide("", "-999"));
        x.hold();
        x.turn(1);
        x.press();
        displays(x, Check.wide("EDIT 10", ""), Check.wide("", "-998"));
        KnobMenu y = full();
        y.turn(1);
        y.press();
        y.turn(6);
        y.press();
        y.turn(-1);
        displays(y, Check.wide("EDIT 23", ""), Check.wide("", "8"));
    }

    @Sentence(promises = {28},
        says = "Line 1 begins with four characters: \"*\" for each digit before the place, the digit at the place, and \"-\""
            + " for each digit behind the place.")
    static void asking() {
        for (int item = 9; item <= 10; item++) {
            KnobMenu x = full();
            x.lock(item, 5);
            x.press();
            x.turn(item - 9);
            x.press();
            for (int place = 0; place < 4; place++) {
                String before = "***".substring(0, place);
                String behind = "---".substring(place);
                displays(x, Check.wide("CODE " + item, ""), Check.wide(before + "0" + behind, ""));
                x.turn(-1);
                displays(x, Check.wide("CODE " + item, ""), Check.wide(before + "9" + behind, ""));
                x.press();
            }
        }
    }

    @Sentence(promises = {28}, says = "What is not described here is a space.")
    static void whatWasThereBeforeIsGone() {
        KnobMenu x = number(-999, 999);
        x.addMenu(0);
        x.lock(2, 5);
        displays(x, Check.wide("MENU 0", ""), Check.wide("NUMBER 1", "-999"));
        x.press();
        displays(x, Check.wide("EDIT 1", ""), Check.wide("", "-999"));
        x.turn(4);
        x.turn(50);
        x.turn(50);
        displays(x, Check.wide("EDIT 1", ""), Check.wide("", "-795"));
        x.hold();
        x.turn(1);
        displays(x, Check.wide("MENU 0", ""), Check.wide("MENU 2", "L"));
        x.press();
        displays(x, Check.wide("CODE 2", ""), Check.wide("0---", ""));
    }

    private static void counts(String what, KnobMenu x, int event, int due) {
        Check.equal("events(" + event + ") " + what, x.events(event), due);
    }

    @Sentence(promises = {29}, says = "Throws `IndexOutOfBoundsException` if there is no such event")
    static void noSuchEvent() {
        int[] bad = {-1, 8, Integer.MIN_VALUE, Integer.MAX_VALUE};
        for (int event : bad) {
            Refused.noSuchEver("events(" + event + ")", x -> x.events(event));
        }
        int[] due = {13, 8, 4, 0, 0, 0, 0, 9};
        for (int event = 0; event < 8; event++) {
            counts("at home", Scene.HOME.get(), event, due[event]);
        }
    }

    @Sentence(promises = {29}, says = "0 detents (to the right and to the left) by turn() and by actions")
    static void detents() {
        KnobMenu x = number(0, 9);
        x.turn(0);
        counts("of 0", x, 0, 0);
        x.turn(50);
        counts("against the stop", x, 0, 50);
        x.turn(-50);
        counts("to the left", x, 0, 100);
        x.ifTurned(7);
        counts("that were asked for", x, 0, 100);
        x.press();
        x.turn(-6);
        counts("that are doubled", x, 0, 106);
        Check.type(x, "r50,l50,r1,l1");
        x.run();
        counts("by actions", x, 0, 208);
    }

    @Sentence(promises = {29}, says = "1 presses")
    static void presses() {
        KnobMenu x = new KnobMenu();
        x.press();
        counts("without an entry", x, 1, 1);
        x.hold();
        counts("and holds", x, 1, 1);
        Check.type(x, "p,p,h,p");
        x.run();
        counts("by actions", x, 1, 4);
    }

    @Sentence(promises = {29}, says = "4 wrong codes; 5 times when the device became barred")
    static void wrongCodesAndBars() {
        KnobMenu x = number(0, 9);
        x.lock(1, 3);
        for (int i = 1; i <= 6; i++) {
            Check.enter(x, 2);
            counts("after wrong codes", x, 4, i);
            counts("after wrong codes", x, 5, i / 3);
            if (i == 3) {
                x.press();
                counts("after a press while it is barred", x, 4, 3);
                x.tick(30);
            }
        }
        x.tick(30);
        Check.equal("the code", Check.enter(x, 3), 7);
        counts("after a right code", x, 4, 6);
        counts("after a right code", x, 5, 2);
    }

    @Sentence(promises = {29}, says = "6 timeouts; 7 ticks")
    static void timeoutsAndTicks() {
        KnobMenu x = number(0, 9);
        x.press();
        x.tick(9);
        counts("before one", x, 6, 0);
        counts("before one", x, 7, 9);
        x.tick(1);
        counts("after one", x, 6, 1);
        counts("after one", x, 7, 10);
        x.addChoice(0, 2);
        x.turn(1);
        x.press();
        Check.type(x, "t99");
        x.run();
        counts("by actions", x, 6, 3);
        counts("by actions", x, 7, 109);
    }

    @Sentence(promises = {24, 29}, says = "An object is used for at most 512 calls after it has been made")
    static void countsUpToTheLastCall() {
        KnobMenu turned = new KnobMenu();
        KnobMenu ticked = new KnobMenu();
        KnobMenu pressed = new KnobMenu();
        for (int i = 0; i < 511; i++) {
            turned.turn(-50);
            ticked.tick(99);
            pressed.press();
        }
        counts("in the last call", turned, 0, 511 * 50);
        counts("in the last call", pressed, 1, 511);
        Check.equal("idle() in the last call", ticked.idle(), 511 * 99);
    }
}
