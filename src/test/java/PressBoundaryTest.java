/** Each sentence about pressing and holding (promises 12 and 13) that names a boundary case. */
public final class PressBoundaryTest {
    public static void main(String[] args) throws IllegalAccessException {
        Check.sentences(PressBoundaryTest.class);
    }

    private static void presses(KnobMenu x, int due) {
        int before = x.events(1);
        Check.equal("press()", x.press(), due);
        Check.equal("idle() after the press", x.idle(), 0);
        Check.equal("events(1)", x.events(1), before + 1);
    }

    /** A root with choices that have the locks with codes 101, 102, .. */
    private static KnobMenu locked(int items) {
        KnobMenu x = new KnobMenu();
        for (int i = 1; i <= items; i++) {
            x.addChoice(0, 3);
            x.lock(i, 100 + i);
        }
        return x;
    }

    private static KnobMenu barred() {
        KnobMenu x = locked(2);
        x.addChoice(0, 3);
        for (int i = 0; i < 3; i++) {
            Check.equal("a wrong code", Check.enter(x, 1), 8);
        }
        return x;
    }

    @Sentence(promises = {12}, says = "Browsing without an entry: 0, nothing happens.")
    static void noEntry() {
        KnobMenu x = new KnobMenu();
        presses(x, 0);
        x.tick(99);
        presses(x, 0);
        Check.equal("mode()", x.mode(), 0);
        Check.equal("shown()", x.shown(), 0);
        Check.isTrue("isHome()", x.isHome());
        Check.equal("addMenu", x.addMenu(0), 1);
        presses(x, 2);
    }

    @Sentence(promises = {12, 20, 21}, says = "Browsing, back is chosen: 1, the device shows the menu to which the shown menu"
        + " belongs, and the cursor is the index of the menu that was left.")
    static void back() {
        KnobMenu x = new KnobMenu();
        for (int i = 0; i < 8; i++) {
            x.addMenu(0);
        }
        for (int entry = 0; entry < 8; entry++) {
            x.turn(-50);
            x.turn(entry);
            presses(x, 2);
            Check.equal("shown()", x.shown(), 1 + entry);
            Check.equal("chosen() in an empty menu", x.chosen(), KnobMenu.NONE);
            presses(x, 1);
            Check.equal("shown() again", x.shown(), 0);
            Check.equal("cursor() again", x.cursor(), entry);
        }
        Check.isFalse("isHome()", x.isHome());
    }

    @Sentence(promises = {12, 20, 21}, says = "and the cursor is the index of the menu that was left")
    static void backFromTheDeepestMenu() {
        KnobMenu x = new KnobMenu();
        int[] menus = {2, 5, 9};
        for (int level = 0; level < 3; level++) {
            int menu = level == 0 ? 0 : menus[level - 1];
            for (int i = 0; i < level + 1; i++) {
                x.addChoice(menu, 2);
            }
            Check.equal("addMenu", x.addMenu(menu), menus[level]);
        }
        for (int level = 0; level < 3; level++) {
            x.turn(level + 1);
            presses(x, 2);
            Check.equal("shown()", x.shown(), menus[level]);
            Check.equal("cursor()", x.cursor(), 0);
        }
        for (int level = 2; level >= 0; level--) {
            x.turn(50);
            presses(x, 1);
            Check.equal("shown()", x.shown(), level == 0 ? 0 : menus[level - 1]);
            Check.equal("cursor()", x.cursor(), level + 1);
        }
    }

    @Sentence(promises = {12, 19, 25}, says = "if the device is barred (see below), 9, and nothing else happens (except that"
        + " the idle time becomes 0 and the press is counted); otherwise 5")
    static void barredUntilTheLastTick() {
        KnobMenu x = barred();
        Check.equal("barred()", x.barred(), 30);
        presses(x, 9);
        Check.equal("mode()", x.mode(), 0);
        Check.equal("barred() after the press", x.barred(), 30);
        x.tick(29);
        Check.equal("barred() at the last tick", x.barred(), 1);
        presses(x, 9);
        Check.equal("mode()", x.mode(), 0);
        Check.equal("barred() after the press", x.barred(), 1);
        Check.equal("events(4)", x.events(4), 3);
        x.tick(1);
        Check.equal("barred() after it", x.barred(), 0);
        presses(x, 5);
        Check.equal("mode()", x.mode(), 2);
    }

    @Sentence(promises = {12}, says = "Browsing, an item that is closed is chosen")
    static void whatIsNotClosedIsUsedWhileBarred() {
        KnobMenu x = locked(2);
        x.addMenu(0);
        x.addNumber(0, 0, 9, 1);
        Check.equal("the right code", Check.enter(x, 101), 7);
        x.turn(1);
        for (int i = 0; i < 3; i++) {
            Check.equal("a wrong code", Check.enter(x, 101), 8);
        }
        presses(x, 9);
        x.turn(-1);
        presses(x, 3);
        presses(x, 4);
        x.turn(2);
        presses(x, 2);
        presses(x, 1);
        x.turn(1);
        presses(x, 3);
        Check.equal("barred()", x.barred(), 30);
    }

    @Sentence(promises = {12}, says = "All digits are 0, and the place is 0.")
    static void digitsStartAnew() {
        KnobMenu x = locked(1);
        presses(x, 5);
        for (int i = 0; i < 3; i++) {
            x.turn(7);
            presses(x, 6);
        }
        x.turn(7);
        x.hold();
        presses(x, 5);
        Check.equal("line 1", Check.line(x, 1), Check.wide("0---", ""));
        for (int i = 0; i < 3; i++) {
            Check.equal("the digit", x.turn(0), 0);
            presses(x, 6);
        }
        Check.equal("the last digit", x.turn(0), 0);
        presses(x, 8);
        Check.equal("the code", Check.enter(x, 101), 7);
    }

    @Sentence(promises = {12, 20, 21},
        says = "Browsing, a menu that is not closed is chosen: 2, the device shows this menu, and the cursor is 0.")
    static void aMenuThatIsNotClosed() {
        KnobMenu x = new KnobMenu();
        x.addChoice(0, 2);
        x.addMenu(0);
        x.addChoice(2, 2);
        x.lock(2, 0);
        x.turn(1);
        presses(x, 5);
        presses(x, 6);
        presses(x, 6);
        presses(x, 6);
        presses(x, 7);
        Check.equal("shown() when it is open", x.shown(), 0);
        presses(x, 2);
        Check.equal("shown()", x.shown(), 2);
        Check.equal("cursor()", x.cursor(), 0);
        Check.equal("chosen()", x.chosen(), 3);
        x.turn(1);
        presses(x, 1);
        presses(x, 2);
        Check.equal("cursor() again", x.cursor(), 0);
    }

    @Sentence(promises = {12, 23}, says = "Browsing, a number or a choice that is not closed is chosen: 3, the device edits"
        + " this item. The draft is its value.")
    static void theDraftIsTheValue() {
        KnobMenu x = new KnobMenu();
        x.addNumber(0, -5, 5, 1);
        x.addChoice(0, 4);
        presses(x, 3);
        Check.equal("draft()", x.draft(), -5);
        x.turn(50);
        presses(x, 4);
        presses(x, 3);
        Check.equal("draft() of the new value", x.draft(), 5);
        x.turn(-2);
        x.hold();
        presses(x, 3);
        Check.equal("draft() after one that was dropped", x.draft(), 5);
        x.hold();
        x.turn(1);
        presses(x, 3);
        Check.equal("draft() of the choice", x.draft(), 0);
        x.turn(-1);
        presses(x, 4);
        Check.equal("value(2)", x.value(2), 3);
    }

    @Sentence(promises = {12, 26, 29},
        says = "If the value is changed by this, it is an edit, and it is added to the log.")
    static void anEditChangesTheValue() {
        KnobMenu x = new KnobMenu();
        x.addNumber(0, 0, 9, 1);
        Check.edit(x, 0);
        Check.edit(x, -1);
        Check.equal("logged() without a change", x.logged(), 0);
        Check.equal("events(2) without a change", x.events(2), 0);
        Check.edit(x, 1);
        Check.equal("logged()", x.logged(), 1);
        Check.equal("events(2)", x.events(2), 1);
        presses(x, 3);
        x.turn(3);
        x.turn(-3);
        presses(x, 4);
        Check.equal("logged() of a draft that came back", x.logged(), 1);
        Check.equal("events(2)", x.events(2), 1);
        Check.edit(x, -1);
        Check.equal("logged() of an edit to the first value", x.logged(), 2);
        Check.equal("events(2)", x.events(2), 2);
        Check.equal("value(1)", x.value(1), 0);
    }

    @Sentence(promises = {12, 18}, says = "If the value is changed by this, it is an edit")
    static void anEditAfterThePresetOrTheLog() {
        KnobMenu x = new KnobMenu();
        x.addNumber(0, 0, 9, 1);
        x.savePreset(0);
        Check.edit(x, 4);
        presses(x, 3);
        x.loadPreset(0);
        presses(x, 4);
        Check.equal("the draft differs from the loaded value", x.events(2), 2);
        Check.equal("logged()", x.logged(), 1);
        presses(x, 3);
        x.turn(-4);
        x.takeBack();
        presses(x, 4);
        Check.equal("the draft is the value that came back", x.events(2), 2);
        Check.equal("logged()", x.logged(), 0);
    }

    @Sentence(promises = {12}, says = "Asking for a code, the place is less than 3: 6, the place increases by 1.")
    static void places() {
        KnobMenu x = locked(1);
        presses(x, 5);
        String[] lines = {"0---", "*0--", "**0-", "***0"};
        for (int place = 0; place < 3; place++) {
            Check.equal("line 1", Check.line(x, 1), Check.wide(lines[place], ""));
            presses(x, 6);
            Check.equal("mode()", x.mode(), 2);
        }
        Check.equal("line 1", Check.line(x, 1), Check.wide(lines[3], ""));
        presses(x, 8);
        Check.equal("mode()", x.mode(), 0);
    }

    @Sentence(promises = {12}, says = "the code that was entered is 1000 * (digit 0) + 100 * (digit 1) + 10 * (digit 2) +"
        + " (digit 3)")
    static void enteredCodes() {
        int[] codes = {0, 1, 10, 100, 1000, 1234, 9999, 9000, 7};
        for (int code : codes) {
            for (int entered : codes) {
                KnobMenu x = locked(1);
                x.lock(1, code);
                boolean right = entered == code;
                Check.equal(entered + " for " + code, Check.enter(x, entered), right ? 7 : 8);
                Check.equal("isClosed(1)", x.isClosed(1) ? 1 : 0, right ? 0 : 1);
                Check.equal("events(4)", x.events(4), right ? 0 : 1);
            }
        }
    }

    @Sentence(promises = {12}, says = "If this is the code of the item: 7, the item is open, and the number of wrong codes in"
        + " a row becomes 0.")
    static void aRightCodeStartsTheRowAnew() {
        KnobMenu x = locked(2);
        Check.enter(x, 1);
        Check.enter(x, 1);
        Check.equal("the right code", Check.enter(x, 101), 7);
        Check.isFalse("isClosed(1)", x.isClosed(1));
        Check.isTrue("isClosed(2)", x.isClosed(2));
        x.turn(1);
        Check.equal("the code of another item", Check.enter(x, 101), 8);
        Check.enter(x, 1);
        Check.equal("barred() after two", x.barred(), 0);
        Check.enter(x, 1);
        Check.equal("barred() after three", x.barred(), 30);
    }

    @Sentence(promises = {12, 25, 29},
        says = "when it is 3, the device is barred for 30 ticks, and the number becomes 0")
    static void theThirdWrongCode() {
        KnobMenu x = locked(1);
        for (int i = 1; i <= 9; i++) {
            Check.equal("a wrong code", Check.enter(x, 1), 8);
            Check.equal("barred()", x.barred(), i % 3 == 0 ? 30 : 0);
            Check.equal("events(4)", x.events(4), i);
            Check.equal("events(5)", x.events(5), i / 3);
            Check.equal("mode()", x.mode(), 0);
            Check.isTrue("isClosed(1)", x.isClosed(1));
            if (i % 3 == 0) {
                x.tick(30);
            }
        }
    }

    @Sentence(promises = {12, 25}, says = "the number of wrong codes in a row (of all items together; it stays when the"
        + " device goes home) increases by 1")
    static void wrongCodesOfAllItems() {
        KnobMenu x = locked(3);
        Check.enter(x, 1);
        x.turn(1);
        Check.enter(x, 1);
        Check.equal("barred() after two", x.barred(), 0);
        x.turn(1);
        Check.enter(x, 1);
        Check.equal("barred() after three", x.barred(), 30);
    }

    @Sentence(promises = {12, 25}, says = "it stays when the device goes home")
    static void wrongCodesStayWhenItGoesHome() {
        KnobMenu x = locked(2);
        x.turn(1);
        Check.enter(x, 1);
        x.hold();
        x.turn(1);
        Check.enter(x, 1);
        Check.equal("home by a timeout", x.tick(30), 1);
        x.lock(1, 7);
        Check.enter(x, 1);
        Check.equal("barred()", x.barred(), 30);
    }

    @Sentence(promises = {12, 13}, says = "asking for a code ends, and the device is browsing")
    static void aCodeThatIsNotEndedIsNotWrong() {
        KnobMenu x = locked(1);
        Check.enter(x, 1);
        Check.enter(x, 1);
        for (int i = 0; i < 2; i++) {
            presses(x, 5);
            for (int place = 0; place < 3; place++) {
                presses(x, 6);
            }
            if (i == 0) {
                Check.equal("hold", x.hold(), 2);
            } else {
                Check.equal("a timeout", x.tick(10), 1);
            }
            Check.equal("mode()", x.mode(), 0);
            Check.equal("events(4)", x.events(4), 2);
            Check.equal("barred()", x.barred(), 0);
        }
        Check.enter(x, 1);
        Check.equal("barred() by the next one", x.barred(), 30);
    }

    @Sentence(promises = {13, 23}, says = "When the knob is held, an edit is dropped, or asking for a code ends, and the"
        + " device is browsing; if it was browsing, it goes home.")
    static void holding() {
        int[] modes = {0, 0, 0, 0, 1, 1, 2, 0, 0, 0};
        for (Scene scene : Scene.values()) {
            KnobMenu x = scene.get();
            int shown = x.shown();
            int cursor = x.cursor();
            int mode = modes[scene.ordinal()];
            Check.equal("hold " + scene, x.hold(), mode);
            Check.equal("mode()", x.mode(), 0);
            Check.equal("idle()", x.idle(), 0);
            Check.equal("draft()", x.draft(), 0);
            Check.equal("shown()", x.shown(), mode == 0 ? 0 : shown);
            Check.equal("cursor()", x.cursor(), mode == 0 ? 0 : cursor);
            Check.equal("isHome()", x.isHome() ? 1 : 0, mode == 0 ? 1 : 0);
            Check.equal("value(2)", x.value(2), 27);
            Check.equal("value(3)", x.value(3), 1);
            Check.equal("logged()", x.logged(), 4);
            Check.equal("hold again", x.hold(), 0);
            Check.isTrue("isHome()", x.isHome());
        }
    }

    @Sentence(promises = {13, 27},
        says = "To go home means: it is browsing, shows the root, the cursor is 0, and all items with locks are closed.")
    static void goingHomeClosesAll() {
        KnobMenu x = new KnobMenu();
        x.addMenu(0);
        x.addMenu(1);
        x.addMenu(2);
        x.addNumber(3, 0, 9, 1);
        for (int i = 1; i <= 4; i++) {
            x.lock(i, i);
        }
        for (int i = 1; i <= 4; i++) {
            Check.equal("the code of " + i, Check.enter(x, i), 7);
            Check.isFalse("isClosed", x.isClosed(i));
            presses(x, i < 4 ? 2 : 3);
        }
        Check.equal("hold", x.hold(), 1);
        Check.equal("shown()", x.shown(), 3);
        Check.isFalse("isClosed(4) after the edit", x.isClosed(4));
        Check.equal("hold", x.hold(), 0);
        Check.equal("shown()", x.shown(), 0);
        Check.equal("cursor()", x.cursor(), 0);
        for (int i = 1; i <= 4; i++) {
            Check.isTrue("isClosed", x.isClosed(i));
        }
        Check.isTrue("isHome()", x.isHome());
    }

    @Sentence(promises = {12}, says = "Returns the result, 0 to 9.")
    static void theResultInEveryScene() {
        int[] due = {2, 3, 2, 1, 4, 4, 6, 2, 9, 2};
        for (Scene scene : Scene.values()) {
            presses(scene.get(), due[scene.ordinal()]);
        }
    }
}
