import java.util.function.Supplier;

/** Each sentence about items and locks, and of promises 1 to 10, that names a boundary case. */
public final class ItemsBoundaryTest {
    private static final int[] NO_ITEMS = {-1, Integer.MIN_VALUE, Integer.MAX_VALUE};

    public static void main(String[] args) throws IllegalAccessException {
        Check.sentences(ItemsBoundaryTest.class);
    }

    /** Adds an item of the kind and returns its number. */
    private static int add(KnobMenu x, int menu, int kind) {
        if (kind == 0) {
            return x.addMenu(menu);
        }
        return kind == 1 ? x.addNumber(menu, -3, 5, 2) : x.addChoice(menu, 3);
    }

    /** The root with 8 menus, of which menu 1 is full, and menu 2 has as many items as are left. */
    private static KnobMenu withItems(int items) {
        KnobMenu x = new KnobMenu();
        for (int i = 1; i < items; i++) {
            if (i <= 8) {
                x.addMenu(0);
            } else {
                x.addChoice(i <= 16 ? 1 : 2, 2);
            }
        }
        return x;
    }

    /** A menu with 8 items of mixed kinds, at the end of a chain of menus that have one item each. */
    private static KnobMenu withEight(int menu) {
        KnobMenu x = new KnobMenu();
        for (int level = 0; level < menu; level++) {
            x.addMenu(level);
        }
        for (int i = 0; i < 8; i++) {
            add(x, menu, menu == 3 ? 1 + i % 2 : i % 3);
        }
        return x;
    }

    @Sentence(promises = {1, 6}, says = "Item 0 is a menu, the root; it is the only item at first.")
    static void theRootAlone() {
        KnobMenu x = new KnobMenu();
        Check.equal("items()", x.items(), 1);
        Check.equal("kind(0)", x.kind(0), 0);
        Refused.noSuch(KnobMenu::new, "kind(1)", y -> y.kind(1));
        Check.equal("addChoice(0, 2)", x.addChoice(0, 2), 1);
        Check.equal("items() with one more", x.items(), 2);
    }

    @Sentence(promises = {1, 27}, says = "Creates a device with the root alone, at home.")
    static void aNewDeviceIsAtHome() {
        KnobMenu x = new KnobMenu();
        Check.isTrue("isHome()", x.isHome());
        Check.equal("mode()", x.mode(), 0);
        Check.equal("shown()", x.shown(), 0);
        Check.equal("cursor()", x.cursor(), 0);
        Check.equal("chosen()", x.chosen(), KnobMenu.NONE);
        Check.equal("ticksToHome()", x.ticksToHome(), 0);
        for (int event = 0; event < 8; event++) {
            Check.equal("events(" + event + ")", x.events(event), 0);
        }
    }

    @Sentence(promises = {2, 3, 4, 6},
        says = "There are at most 24 items, which are numbered from 0 in the order in which they are added.")
    static void numbersOfItems() {
        KnobMenu x = new KnobMenu();
        for (int i = 1; i <= 23; i++) {
            Check.equal("items()", x.items(), i);
            Check.equal("item " + i, add(x, i <= 8 ? 0 : (i - 1) / 8, i <= 8 ? 0 : i % 3), i);
        }
        Check.equal("items()", x.items(), 24);
    }

    @Sentence(promises = {2, 3, 4}, says = "there are 24 items")
    static void theLastItemOfEachKind() {
        for (int last = 0; last < 3; last++) {
            int kind = last;
            Supplier<KnobMenu> full = () -> {
                KnobMenu x = withItems(23);
                Check.equal("the last item", add(x, 2, kind), 23);
                return x;
            };
            Check.equal("kind(23)", full.get().kind(23), kind);
            for (int menu = 2; menu <= 3; menu++) {
                int at = menu;
                Refused.badState(full, "menu 24", x -> x.addMenu(at));
                Refused.badState(full, "number 24", x -> x.addNumber(at, 0, 1, 1));
                Refused.badState(full, "choice 24", x -> x.addChoice(at, 2));
            }
        }
    }

    @Sentence(promises = {2, 3, 4}, says = "A menu has at most 8 items, in the order in which they are added.")
    static void eightItems() {
        for (int menu = 0; menu <= 3; menu++) {
            int at = menu;
            Supplier<KnobMenu> full = () -> withEight(at);
            Refused.badState(full, "a ninth number", x -> x.addNumber(at, 0, 1, 1));
            Refused.badState(full, "a ninth choice", x -> x.addChoice(at, 2));
            Refused.badState(full, "a ninth menu", x -> x.addMenu(at));
            KnobMenu x = full.get();
            int other = at == 0 ? 1 : at - 1;
            Check.equal("another menu takes one", x.addChoice(other, 2), x.items() - 1);
        }
    }

    @Sentence(promises = {8, 21, 22}, says = "in the order in which they are added")
    static void orderInTheMenu() {
        KnobMenu x = withItems(24);
        for (int i = 0; i < 8; i++) {
            Check.equal("chosen() in the root", x.chosen(), 1 + i);
            Check.equal("menuOf", x.menuOf(1 + i), 0);
            x.turn(1);
        }
        x.turn(-50);
        x.press();
        for (int i = 0; i < 8; i++) {
            Check.equal("chosen() in menu 1", x.chosen(), 9 + i);
            Check.equal("menuOf", x.menuOf(9 + i), 1);
            x.turn(1);
        }
        Check.equal("chosen() behind the last one", x.chosen(), KnobMenu.NONE);
        x.press();
        x.turn(1);
        x.press();
        for (int i = 0; i < 7; i++) {
            Check.equal("chosen() in menu 2", x.chosen(), 17 + i);
            Check.equal("menuOf", x.menuOf(17 + i), 2);
            x.turn(1);
        }
        Check.equal("chosen() behind the last one", x.chosen(), KnobMenu.NONE);
    }

    private static KnobMenu chain() {
        KnobMenu x = new KnobMenu();
        x.addMenu(0);
        x.addMenu(1);
        x.addMenu(2);
        return x;
    }

    @Sentence(promises = {2, 31}, says = "or its level is 3")
    static void theDeepestMenu() {
        KnobMenu x = new KnobMenu();
        Check.equal("a menu at level 1", x.addMenu(0), 1);
        Check.equal("a menu at level 2", x.addMenu(1), 2);
        Check.equal("a menu at level 3", x.addMenu(2), 3);
        Check.equal("pressesTo(3)", x.pressesTo(3), 3);
        Check.equal("another menu at level 3", x.addMenu(2), 4);
        Refused.badState(ItemsBoundaryTest::chain, "a menu at level 4", y -> y.addMenu(3));
    }

    @Sentence(promises = {3, 4, 31},
        says = "The level of an item is at most 4, and the level of a menu is at most 3.")
    static void theDeepestItems() {
        KnobMenu x = chain();
        Check.equal("a number at level 4", x.addNumber(3, 0, 1, 1), 4);
        Check.equal("a choice at level 4", x.addChoice(3, 2), 5);
        Check.equal("pressesTo(4)", x.pressesTo(4), 4);
        Check.equal("pressesTo(5)", x.pressesTo(5), 4);
    }

    @Sentence(promises = {31}, says = "The level of the root is 0, and the level of every other item is the level of its"
        + " menu plus 1.")
    static void levels() {
        KnobMenu x = chain();
        for (int level = 0; level <= 3; level++) {
            Check.equal("pressesTo", x.pressesTo(level), level);
            int added = x.addChoice(level, 2);
            Check.equal("pressesTo of an item in it", x.pressesTo(added), level + 1);
        }
    }

    @Sentence(promises = {2}, says = "Throws `IndexOutOfBoundsException` if there is no such item")
    static void addMenuToNoItem() {
        for (int item : NO_ITEMS) {
            Refused.noSuchEver("addMenu(" + item + ")", x -> x.addMenu(item));
        }
        Refused.noSuchEver("addMenu(items())", x -> x.addMenu(x.items()));
        Refused.noSuch(() -> withItems(24), "addMenu(24)", x -> x.addMenu(24));
        Refused.noSuch(KnobMenu::new, "addMenu(1)", x -> x.addMenu(1));
        Check.equal("addMenu of the last item", withItems(9).addMenu(8), 9);
    }

    @Sentence(promises = {2}, says = "Throws `IllegalArgumentException` if the item is not a menu")
    static void addMenuToAnotherKind() {
        Refused.badArgumentEver("addMenu of a number", x -> x.addMenu(Scene.NUMBER));
        Refused.badArgumentEver("addMenu of a choice", x -> x.addMenu(Scene.CHOICE));
        Refused.badArgument(() -> withItems(24), "addMenu(23)", x -> x.addMenu(23));
        Check.equal("addMenu of a menu", Scene.HOME.get().addMenu(Scene.MENU), 7);
    }

    @Sentence(promises = {2, 3, 4, 5}, says = "if the device is not at home")
    static void addAwayFromHome() {
        Refused.badStateAway("addMenu", x -> x.addMenu(0));
        Refused.badStateAway("addNumber", x -> x.addNumber(0, 0, 1, 1));
        Refused.badStateAway("addChoice", x -> x.addChoice(0, 2));
        Refused.badStateAway("lock", x -> x.lock(Scene.NUMBER, 5));
        Refused.badStateAway("lock, to remove it", x -> x.lock(4, -1));
        for (Scene scene : Scene.values()) {
            if (!scene.isAtHome()) {
                KnobMenu x = scene.get();
                x.hold();
                x.hold();
                Check.equal("addMenu at home again", x.addMenu(0), 7);
                Check.equal("addNumber at home again", x.addNumber(0, 0, 1, 1), 8);
                Check.equal("addChoice at home again", x.addChoice(0, 2), 9);
                Check.equal("lock at home again", x.lock(4, -1), 907);
            }
        }
    }

    @Sentence(promises = {3}, says = "Throws `IndexOutOfBoundsException` if there is no such item")
    static void addNumberToNoItem() {
        for (int item : NO_ITEMS) {
            Refused.noSuchEver("addNumber(" + item + ")", x -> x.addNumber(item, 0, 1, 1));
            Refused.noSuchEver("addNumber(" + item + "), bad step", x -> x.addNumber(item, 0, 1, 0));
        }
        Refused.noSuchEver("addNumber(items())", x -> x.addNumber(x.items(), 0, 1, 1));
        Refused.noSuch(() -> withItems(24), "addNumber(24)", x -> x.addNumber(24, 0, 1, 1));
        Check.equal("addNumber of the last item", withItems(9).addNumber(8, 0, 1, 1), 9);
    }

    @Sentence(promises = {3}, says = "Throws `IllegalArgumentException` if the item is not a menu, or another argument is"
        + " out of range")
    static void addNumberToAnotherKind() {
        Refused.badArgumentEver("addNumber of a number", x -> x.addNumber(Scene.NUMBER, 0, 1, 1));
        Refused.badArgumentEver("addNumber of a choice", x -> x.addNumber(Scene.CHOICE, 0, 1, 1));
    }

    @Sentence(promises = {3}, says = "`low`: -999 to 998")
    static void lowOfANumber() {
        KnobMenu x = new KnobMenu();
        Check.equal("low -999", x.addNumber(0, -999, 0, 1), 1);
        Check.equal("low 998", x.addNumber(0, 998, 999, 1), 2);
        Check.equal("value of the lowest", x.value(1), -999);
        Check.equal("value of the highest", x.value(2), 998);
        Refused.badArgumentEver("low -1000", y -> y.addNumber(0, -1000, 0, 1));
        Refused.badArgumentEver("low 999", y -> y.addNumber(0, 999, 999, 1));
        Refused.badArgumentEver("low 999, high 1000", y -> y.addNumber(0, 999, 1000, 1));
        Refused.badArgumentEver("low MIN", y -> y.addNumber(0, Integer.MIN_VALUE, 0, 1));
        Refused.badArgumentEver("low MAX", y -> y.addNumber(0, Integer.MAX_VALUE, 0, 1));
    }

    @Sentence(promises = {3}, says = "`high`: greater than low, at most 999")
    static void highOfANumber() {
        KnobMenu x = new KnobMenu();
        Check.equal("high 999", x.addNumber(0, -999, 999, 100), 1);
        Check.equal("high low + 1", x.addNumber(0, -5, -4, 1), 2);
        x.press();
        for (int i = 0; i < 2; i++) {
            Check.equal("up to 999", x.turn(50), 999);
        }
        x.hold();
        x.turn(1);
        x.press();
        Check.equal("up to low + 1", x.turn(50), -4);
        Refused.badArgumentEver("high 1000", y -> y.addNumber(0, 0, 1000, 1));
        Refused.badArgumentEver("high MAX", y -> y.addNumber(0, 0, Integer.MAX_VALUE, 1));
        Refused.badArgumentEver("high equals low", y -> y.addNumber(0, 7, 7, 1));
        Refused.badArgumentEver("high less than low", y -> y.addNumber(0, 7, 6, 1));
        Refused.badArgumentEver("high equals low at the bottom", y -> y.addNumber(0, -999, -999, 1));
        Refused.badArgumentEver("high MIN", y -> y.addNumber(0, 0, Integer.MIN_VALUE, 1));
        Refused.badArgumentEver("both too small", y -> y.addNumber(0, -2000, -1500, 1));
        Refused.badArgumentEver("both too large", y -> y.addNumber(0, 1500, 2000, 1));
    }

    @Sentence(promises = {3}, says = "`step`: 1 to 100")
    static void stepOfANumber() {
        int[] steps = {1, 2, 99, 100};
        for (int step : steps) {
            KnobMenu x = new KnobMenu();
            Check.equal("addNumber", x.addNumber(0, -999, 999, step), 1);
            x.press();
            Check.equal("a step of " + step, x.turn(1), -999 + step);
        }
        int[] bad = {0, -1, 101, Integer.MIN_VALUE, Integer.MAX_VALUE};
        for (int step : bad) {
            Refused.badArgumentEver("step " + step, x -> x.addNumber(0, 0, 9, step));
        }
    }

    @Sentence(promises = {3, 9}, says = "its value is the low limit at first")
    static void firstValueOfANumber() {
        int[] lows = {-999, -1, 0, 1, 998};
        for (int low : lows) {
            KnobMenu x = new KnobMenu();
            x.addNumber(0, low, 999, 5);
            Check.equal("value(1)", x.value(1), low);
        }
    }

    @Sentence(promises = {4}, says = "Throws `IndexOutOfBoundsException` if there is no such item")
    static void addChoiceToNoItem() {
        for (int item : NO_ITEMS) {
            Refused.noSuchEver("addChoice(" + item + ")", x -> x.addChoice(item, 2));
            Refused.noSuchEver("addChoice(" + item + ", 1)", x -> x.addChoice(item, 1));
        }
        Refused.noSuchEver("addChoice(items())", x -> x.addChoice(x.items(), 2));
        Refused.noSuch(() -> withItems(24), "addChoice(24)", x -> x.addChoice(24, 2));
        Check.equal("addChoice of the last item", withItems(9).addChoice(8, 2), 9);
    }

    @Sentence(promises = {4}, says = "Throws `IllegalArgumentException` if the item is not a menu, or options is out of"
        + " range")
    static void addChoiceToAnotherKind() {
        Refused.badArgumentEver("addChoice of a number", x -> x.addChoice(Scene.NUMBER, 2));
        Refused.badArgumentEver("addChoice of a choice", x -> x.addChoice(Scene.CHOICE, 2));
    }

    @Sentence(promises = {4}, says = "`options`: 2 to 9")
    static void optionsOfAChoice() {
        for (int options = 2; options <= 9; options++) {
            KnobMenu x = new KnobMenu();
            Check.equal("addChoice", x.addChoice(0, options), 1);
            x.press();
            Check.equal("the last of " + options, x.turn(-1), options - 1);
        }
        int[] bad = {1, 0, -1, 10, Integer.MIN_VALUE, Integer.MAX_VALUE};
        for (int options : bad) {
            Refused.badArgumentEver("options " + options, x -> x.addChoice(0, options));
        }
    }

    @Sentence(promises = {4, 9}, says = "A choice has a number of options and a value from 0 to (options - 1), which is 0"
        + " at first.")
    static void valuesOfAChoice() {
        for (int options = 2; options <= 9; options++) {
            KnobMenu x = new KnobMenu();
            x.addChoice(0, options);
            Check.equal("value(1) at first", x.value(1), 0);
            for (int value = 1; value < options; value++) {
                Check.edit(x, 1);
                Check.equal("value(1)", x.value(1), value);
            }
            Check.edit(x, 1);
            Check.equal("value(1) behind the last one", x.value(1), 0);
        }
    }

    @Sentence(promises = {2, 3, 4},
        says = "If more than one exception applies to a call, the one that is listed first in its throws clause is thrown.")
    static void theFirstExceptionOfAdding() {
        Supplier<KnobMenu> full = () -> withItems(24);
        Refused.badArgument(full, "addMenu of a choice, 24 items", x -> x.addMenu(23));
        Refused.badArgument(full, "addNumber, step 0, 24 items", x -> x.addNumber(0, 0, 1, 0));
        Refused.badArgument(full, "addChoice, 1 option, 24 items", x -> x.addChoice(0, 1));
        Refused.noSuch(full, "addNumber(24), step 0, 24 items", x -> x.addNumber(24, 0, 1, 0));
        Refused.noSuch(full, "addChoice(24), 1 option, 24 items", x -> x.addChoice(24, 1));
        Refused.badState(() -> withEight(3), "a ninth item at level 4", x -> x.addMenu(3));
    }

    @Sentence(promises = {5}, says = "Throws `IndexOutOfBoundsException` if there is no such item")
    static void lockOfNoItem() {
        for (int item : NO_ITEMS) {
            Refused.noSuchEver("lock(" + item + ", 0)", x -> x.lock(item, 0));
            Refused.noSuchEver("lock(" + item + ", -2)", x -> x.lock(item, -2));
        }
        Refused.noSuchEver("lock(items(), -1)", x -> x.lock(x.items(), -1));
        Refused.noSuch(() -> withItems(24), "lock(24, 0)", x -> x.lock(24, 0));
        Check.equal("lock(23, 0)", withItems(24).lock(23, 0), KnobMenu.NONE);
    }

    @Sentence(promises = {5}, says = "Throws `IllegalArgumentException` if item is 0, or code is out of range")
    static void lockOfTheRoot() {
        int[] codes = {-1, 0, 9999, -2, 10000};
        for (int code : codes) {
            Refused.badArgumentEver("lock(0, " + code + ")", x -> x.lock(0, code));
        }
        Check.equal("lock(1, 0)", Scene.HOME.get().lock(1, 0), KnobMenu.NONE);
    }

    @Sentence(promises = {5}, says = "`code`: the code, 0 to 9999; -1 for no lock")
    static void codesOfALock() {
        int[] codes = {0, 1, 9998, 9999};
        for (int code : codes) {
            KnobMenu x = Scene.HOME.get();
            Check.equal("lock", x.lock(Scene.MENU, code), KnobMenu.NONE);
            Check.isTrue("isClosed", x.isClosed(Scene.MENU));
            Check.equal("it opens", Check.enter(x, code), 7);
            Check.isFalse("isClosed when open", x.isClosed(Scene.MENU));
            x.hold();
            Check.equal("lock(-1)", x.lock(Scene.MENU, -1), code);
            Check.isFalse("isClosed without a lock", x.isClosed(Scene.MENU));
            Check.equal("press", x.press(), 2);
        }
        int[] bad = {-2, 10000, Integer.MIN_VALUE, Integer.MAX_VALUE};
        for (int code : bad) {
            Refused.badArgumentEver("lock(2, " + code + ")", x -> x.lock(Scene.NUMBER, code));
        }
    }

    @Sentence(promises = {5}, says = "Every item except the root can have a lock with a code from 0 to 9999.")
    static void lockOfEveryItem() {
        KnobMenu x = withItems(24);
        for (int i = 1; i < 24; i++) {
            Check.equal("lock", x.lock(i, 400 * i), KnobMenu.NONE);
        }
        for (int i = 1; i < 24; i++) {
            Check.isTrue("isClosed", x.isClosed(i));
            Check.equal("lock", x.lock(i, 9999 - i), 400 * i);
        }
        Check.isFalse("isClosed(0)", x.isClosed(0));
    }

    @Sentence(promises = {5}, says = "Returns the previous code; NONE if there was no lock.")
    static void previousCodes() {
        KnobMenu x = Scene.HOME.get();
        Check.equal("no lock in place of none", x.lock(2, -1), KnobMenu.NONE);
        Check.equal("a lock in place of none", x.lock(2, 0), KnobMenu.NONE);
        Check.equal("a lock in place of a lock", x.lock(2, 9999), 0);
        Check.equal("the same lock", x.lock(2, 9999), 9999);
        Check.equal("no lock in place of a lock", x.lock(2, -1), 9999);
        Check.equal("no lock once more", x.lock(2, -1), KnobMenu.NONE);
    }

    @Sentence(promises = {5, 10},
        says = "Gives an item a lock, which is closed, in place of the one that it had, or removes its lock.")
    static void aLockInPlaceOfAnother() {
        KnobMenu x = Scene.HOME.get();
        x.lock(Scene.MENU, 12);
        Check.equal("the first code", Check.enter(x, 12), 7);
        x.hold();
        x.lock(Scene.MENU, 13);
        Check.isTrue("isClosed with the new lock", x.isClosed(Scene.MENU));
        Check.equal("the first code", Check.enter(x, 12), 8);
        Check.equal("the second code", Check.enter(x, 13), 7);
        x.hold();
        x.lock(Scene.MENU, -1);
        x.lock(Scene.MENU, 14);
        Check.isTrue("isClosed with a lock again", x.isClosed(Scene.MENU));
        Check.isTrue("isHome() with it", x.isHome());
    }

    @Sentence(promises = {5, 10}, says = "An item without a lock is never closed.")
    static void neverClosedWithoutALock() {
        KnobMenu x = Scene.HOME.get();
        x.lock(4, -1);
        x.lock(6, -1);
        for (int i = 0; i < 7; i++) {
            Check.isFalse("isClosed(" + i + ")", x.isClosed(i));
        }
        x.turn(1);
        x.hold();
        for (int i = 0; i < 7; i++) {
            Check.isFalse("isClosed(" + i + ") after going home", x.isClosed(i));
        }
    }

    @Sentence(promises = {7}, says = "Returns the kind, 0 to 2.")
    static void kinds() {
        KnobMenu x = withItems(23);
        x.addNumber(2, 0, 1, 1);
        Check.equal("kind of the root", x.kind(0), 0);
        Check.equal("kind of a menu", x.kind(8), 0);
        Check.equal("kind of a choice", x.kind(22), 2);
        Check.equal("kind of the last number", x.kind(23), 1);
    }

    @Sentence(promises = {7, 8, 9, 10}, says = "Throws `IndexOutOfBoundsException` if there is no such item")
    static void queriesOfNoItem() {
        for (int item : NO_ITEMS) {
            Refused.noSuchEver("kind(" + item + ")", x -> x.kind(item));
            Refused.noSuchEver("menuOf(" + item + ")", x -> x.menuOf(item));
            Refused.noSuchEver("value(" + item + ")", x -> x.value(item));
            Refused.noSuchEver("isClosed(" + item + ")", x -> x.isClosed(item));
        }
        Refused.noSuchEver("kind(items())", x -> x.kind(x.items()));
        Refused.noSuchEver("menuOf(items())", x -> x.menuOf(x.items()));
        Refused.noSuchEver("value(items())", x -> x.value(x.items()));
        Refused.noSuchEver("isClosed(items())", x -> x.isClosed(x.items()));
    }

    @Sentence(promises = {8}, says = "Returns the number of the menu; NONE for the root.")
    static void menuOfTheRoot() {
        KnobMenu x = chain();
        Check.equal("menuOf(0)", x.menuOf(0), KnobMenu.NONE);
        Check.equal("menuOf(1)", x.menuOf(1), 0);
        Check.equal("menuOf(3)", x.menuOf(3), 2);
        Check.equal("NONE", KnobMenu.NONE, -1);
    }

    @Sentence(promises = {9}, says = "Throws `IllegalArgumentException` if the item is a menu")
    static void valueOfAMenu() {
        Refused.badArgumentEver("value(0)", x -> x.value(0));
        Refused.badArgumentEver("value(1)", x -> x.value(Scene.MENU));
        Check.equal("value of a number", Scene.HOME.get().value(Scene.NUMBER), 27);
        Check.equal("value of a choice", Scene.HOME.get().value(Scene.CHOICE), 1);
    }

    @Sentence(promises = {10}, says = "Returns true if it has a lock and is closed.")
    static void closedItems() {
        KnobMenu x = Scene.OPENED.get();
        Check.isFalse("isClosed(0)", x.isClosed(0));
        Check.isFalse("isClosed without a lock", x.isClosed(2));
        Check.isFalse("isClosed of an open item", x.isClosed(4));
        Check.isTrue("isClosed of a closed item", x.isClosed(6));
        x.hold();
        Check.isTrue("isClosed after going home", x.isClosed(4));
    }
}
