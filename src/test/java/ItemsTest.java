/** Promises 1 to 10: a new object and its items. */
public final class ItemsTest {
    public static void main(String[] args) {
        newObject();
        addMenu();
        addMenuRefused();
        addNumber();
        addNumberRefused();
        addChoice();
        limits();
        awayFromHome();
        lock();
        lockRefused();
        itemQueries();
        Check.end("ItemsTest");
    }

    private static void newObject() {
        KnobMenu x = new KnobMenu();
        Check.equal("NONE", KnobMenu.NONE, -1);
        Check.equal("items()", x.items(), 1);
        Check.equal("kind(0)", x.kind(0), 0);
        Check.equal("menuOf(0)", x.menuOf(0), KnobMenu.NONE);
        Check.isFalse("isClosed(0)", x.isClosed(0));
        Check.isTrue("isHome()", x.isHome());
        Check.equal("mode()", x.mode(), 0);
        Check.equal("shown()", x.shown(), 0);
        Check.equal("cursor()", x.cursor(), 0);
        Check.equal("chosen()", x.chosen(), KnobMenu.NONE);
        Check.equal("draft()", x.draft(), 0);
        Check.equal("idle()", x.idle(), 0);
        Check.equal("barred()", x.barred(), 0);
        Check.equal("logged()", x.logged(), 0);
        Check.equal("ticksToHome()", x.ticksToHome(), 0);
        Check.equal("fraction()", x.fraction(), 0.0);
        Check.equal("firstError()", x.firstError(), 0);
        for (int event = 0; event < 8; event++) {
            Check.equal("events(" + event + ")", x.events(event), 0);
        }
        Check.equal("line 0", Check.line(x, 0), Check.wide("MENU 0", ""));
        Check.equal("line 1", Check.line(x, 1), Check.wide("", ""));
    }

    private static void addMenu() {
        KnobMenu x = new KnobMenu();
        Check.equal("addMenu(0)", x.addMenu(0), 1);
        Check.equal("addMenu(1)", x.addMenu(1), 2);
        Check.equal("addMenu(2)", x.addMenu(2), 3);
        Check.badState(x, "addMenu at level 3", () -> x.addMenu(3));
        Check.equal("addMenu(0) again", x.addMenu(0), 4);
        Check.equal("menuOf(3)", x.menuOf(3), 2);
        Check.equal("kind(3)", x.kind(3), 0);
        Check.equal("addNumber at level 4", x.addNumber(3, 0, 1, 1), 5);
        Check.equal("addChoice at level 4", x.addChoice(3, 2), 6);
    }

    private static void addMenuRefused() {
        KnobMenu x = new KnobMenu();
        x.addNumber(0, 0, 9, 1);
        x.addChoice(0, 3);
        Check.noSuch(x, "addMenu(-1)", () -> x.addMenu(-1));
        Check.noSuch(x, "addMenu(3)", () -> x.addMenu(3));
        Check.noSuch(x, "addMenu(MIN)", () -> x.addMenu(Integer.MIN_VALUE));
        Check.noSuch(x, "addMenu(MAX)", () -> x.addMenu(Integer.MAX_VALUE));
        Check.badArgument(x, "addMenu of a number", () -> x.addMenu(1));
        Check.badArgument(x, "addMenu of a choice", () -> x.addMenu(2));
        x.turn(1);
        Check.noSuch(x, "addMenu(3) not at home", () -> x.addMenu(3));
        Check.badArgument(x, "addMenu of a number not at home", () -> x.addMenu(1));
        Check.badState(x, "addMenu not at home", () -> x.addMenu(0));
    }

    private static void addNumber() {
        KnobMenu x = new KnobMenu();
        Check.equal("addNumber widest", x.addNumber(0, -999, 999, 100), 1);
        Check.equal("addNumber highest", x.addNumber(0, 998, 999, 1), 2);
        Check.equal("addNumber lowest", x.addNumber(0, -999, -998, 1), 3);
        Check.equal("kind(1)", x.kind(1), 1);
        Check.equal("menuOf(1)", x.menuOf(1), 0);
        Check.equal("value(1)", x.value(1), -999);
        Check.equal("value(2)", x.value(2), 998);
        Check.equal("items()", x.items(), 4);
    }

    private static void addNumberRefused() {
        KnobMenu x = new KnobMenu();
        x.addNumber(0, 0, 9, 1);
        Check.noSuch(x, "addNumber(-1)", () -> x.addNumber(-1, 0, 9, 1));
        Check.noSuch(x, "addNumber(2) with bad limits", () -> x.addNumber(2, 9, 0, 0));
        Check.badArgument(x, "addNumber of a number", () -> x.addNumber(1, 0, 9, 1));
        Check.badArgument(x, "low -1000", () -> x.addNumber(0, -1000, 9, 1));
        Check.badArgument(x, "low 999", () -> x.addNumber(0, 999, 999, 1));
        Check.badArgument(x, "high 1000", () -> x.addNumber(0, 0, 1000, 1));
        Check.badArgument(x, "high MAX", () -> x.addNumber(0, 0, Integer.MAX_VALUE, 1));
        Check.badArgument(x, "low MIN", () -> x.addNumber(0, Integer.MIN_VALUE, 0, 1));
        Check.badArgument(x, "high equals low", () -> x.addNumber(0, 5, 5, 1));
        Check.badArgument(x, "high less than low", () -> x.addNumber(0, 5, 4, 1));
        Check.badArgument(x, "step 0", () -> x.addNumber(0, 0, 9, 0));
        Check.badArgument(x, "step -1", () -> x.addNumber(0, 0, 9, -1));
        Check.badArgument(x, "step 101", () -> x.addNumber(0, 0, 9, 101));
        x.press();
        Check.badArgument(x, "step 0 not at home", () -> x.addNumber(0, 0, 9, 0));
        Check.badState(x, "addNumber not at home", () -> x.addNumber(0, 0, 9, 1));
    }

    private static void addChoice() {
        KnobMenu x = new KnobMenu();
        Check.equal("addChoice(0, 2)", x.addChoice(0, 2), 1);
        Check.equal("addChoice(0, 9)", x.addChoice(0, 9), 2);
        Check.equal("kind(2)", x.kind(2), 2);
        Check.equal("menuOf(2)", x.menuOf(2), 0);
        Check.equal("value(2)", x.value(2), 0);
        Check.noSuch(x, "addChoice(3, 1)", () -> x.addChoice(3, 1));
        Check.noSuch(x, "addChoice(-1, 2)", () -> x.addChoice(-1, 2));
        Check.badArgument(x, "addChoice of a choice", () -> x.addChoice(1, 2));
        Check.badArgument(x, "options 1", () -> x.addChoice(0, 1));
        Check.badArgument(x, "options 10", () -> x.addChoice(0, 10));
        Check.badArgument(x, "options MIN", () -> x.addChoice(0, Integer.MIN_VALUE));
        x.turn(1);
        Check.badArgument(x, "options 10 not at home", () -> x.addChoice(0, 10));
        Check.badState(x, "addChoice not at home", () -> x.addChoice(0, 2));
    }

    private static void limits() {
        KnobMenu x = new KnobMenu();
        for (int i = 1; i <= 8; i++) {
            Check.equal("addMenu(0)", x.addMenu(0), i);
        }
        Check.badState(x, "a ninth menu", () -> x.addMenu(0));
        Check.badState(x, "a ninth number", () -> x.addNumber(0, 0, 1, 1));
        Check.badState(x, "a ninth choice", () -> x.addChoice(0, 2));
        Check.badArgument(x, "a ninth choice with 1 option", () -> x.addChoice(0, 1));
        for (int i = 9; i <= 16; i++) {
            Check.equal("addNumber(1)", x.addNumber(1, 0, 1, 1), i);
        }
        for (int i = 17; i <= 23; i++) {
            Check.equal("addChoice(2)", x.addChoice(2, 2), i);
        }
        Check.equal("items()", x.items(), 24);
        Check.badState(x, "menu 24", () -> x.addMenu(2));
        Check.badState(x, "number 24", () -> x.addNumber(2, 0, 1, 1));
        Check.badState(x, "choice 24", () -> x.addChoice(2, 2));
        Check.noSuch(x, "kind(24)", () -> x.kind(24));
        Check.equal("kind(23)", x.kind(23), 2);
        x.press();
        x.turn(50);
        Check.equal("the cursor on back of a full menu", x.cursor(), 8);
        Check.equal("chosen()", x.chosen(), KnobMenu.NONE);
    }

    private static void awayFromHome() {
        KnobMenu x = new KnobMenu();
        x.addMenu(0);
        x.press();
        Check.badState(x, "addMenu in another menu", () -> x.addMenu(1));
        Check.badState(x, "lock in another menu", () -> x.lock(1, 5));
        x.press();
        Check.equal("addChoice at home again", x.addChoice(1, 2), 2);
        x.lock(1, 0);
        Check.equal("press", Check.enter(x, 0), 7);
        Check.badState(x, "addMenu while an item is open", () -> x.addMenu(0));
        Check.badState(x, "addNumber while an item is open", () -> x.addNumber(0, 0, 1, 1));
        Check.badState(x, "addChoice while an item is open", () -> x.addChoice(0, 2));
        Check.badState(x, "lock while an item is open", () -> x.lock(1, -1));
        x.hold();
        x.press();
        Check.badState(x, "addMenu while a code is asked for", () -> x.addMenu(0));
        x.hold();
        Check.equal("lock at home", x.lock(1, -1), 0);
    }

    private static void lock() {
        KnobMenu x = new KnobMenu();
        x.addMenu(0);
        x.addNumber(0, 0, 9, 1);
        x.addChoice(0, 2);
        Check.equal("lock(2, -1) without a lock", x.lock(2, -1), KnobMenu.NONE);
        Check.isFalse("isClosed(2)", x.isClosed(2));
        Check.equal("lock(1, 0)", x.lock(1, 0), KnobMenu.NONE);
        Check.isTrue("isClosed(1)", x.isClosed(1));
        Check.equal("lock(1, 9999)", x.lock(1, 9999), 0);
        Check.equal("lock(2, 12)", x.lock(2, 12), KnobMenu.NONE);
        Check.equal("lock(3, 13)", x.lock(3, 13), KnobMenu.NONE);
        Check.equal("the old code", Check.enter(x, 0), 8);
        Check.equal("the new code", Check.enter(x, 9999), 7);
        Check.isFalse("isClosed(1) when open", x.isClosed(1));
        Check.isTrue("isClosed(2) stays", x.isClosed(2));
        x.hold();
        Check.isTrue("isClosed(1) at home", x.isClosed(1));
        Check.equal("lock(1, -1)", x.lock(1, -1), 9999);
        Check.isFalse("isClosed(1) without a lock", x.isClosed(1));
        Check.equal("press on it", x.press(), 2);
    }

    private static void lockRefused() {
        KnobMenu x = new KnobMenu();
        x.addNumber(0, 0, 9, 1);
        Check.noSuch(x, "lock(-1, 0)", () -> x.lock(-1, 0));
        Check.noSuch(x, "lock(2, -2)", () -> x.lock(2, -2));
        Check.badArgument(x, "lock(0, 5)", () -> x.lock(0, 5));
        Check.badArgument(x, "lock(0, -1)", () -> x.lock(0, -1));
        Check.badArgument(x, "lock(1, -2)", () -> x.lock(1, -2));
        Check.badArgument(x, "lock(1, 10000)", () -> x.lock(1, 10000));
        x.press();
        Check.noSuch(x, "lock(2, 0) not at home", () -> x.lock(2, 0));
        Check.badArgument(x, "lock(0, 0) not at home", () -> x.lock(0, 0));
        Check.badArgument(x, "lock(1, 10000) not at home", () -> x.lock(1, 10000));
        Check.badState(x, "lock(1, 0) not at home", () -> x.lock(1, 0));
    }

    private static void itemQueries() {
        KnobMenu x = new KnobMenu();
        x.addMenu(0);
        x.addNumber(1, -7, 9, 1);
        x.addChoice(1, 4);
        Check.equal("menuOf(1)", x.menuOf(1), 0);
        Check.equal("menuOf(2)", x.menuOf(2), 1);
        Check.equal("menuOf(3)", x.menuOf(3), 1);
        Check.equal("value(2)", x.value(2), -7);
        Check.badArgument(x, "value(0)", () -> x.value(0));
        Check.badArgument(x, "value(1)", () -> x.value(1));
        int[] none = {-1, 4, 23, 24, Integer.MIN_VALUE, Integer.MAX_VALUE};
        for (int item : none) {
            Check.noSuch(x, "kind(" + item + ")", () -> x.kind(item));
            Check.noSuch(x, "menuOf(" + item + ")", () -> x.menuOf(item));
            Check.noSuch(x, "value(" + item + ")", () -> x.value(item));
            Check.noSuch(x, "isClosed(" + item + ")", () -> x.isClosed(item));
        }
    }
}
