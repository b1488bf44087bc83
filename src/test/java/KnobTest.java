/** Promises 11 to 15: the knob, the ticks and the settings. */
public final class KnobTest {
    public static void main(String[] args) {
        turnBrowsing();
        turnAround();
        turnWithoutEntry();
        turnNumber();
        turnChoice();
        turnDigits();
        turnRefused();
        pressThroughMenus();
        pressWithoutEntry();
        pressEdit();
        pressCode();
        wrongCodes();
        wrongCodesOfAllItems();
        barredDevice();
        hold();
        tickTimeouts();
        tickBothTimeouts();
        tickPassedSettings();
        tickRefused();
        set();
        Check.end("KnobTest");
    }

    private static KnobMenu mixed() {
        KnobMenu x = new KnobMenu();
        x.addMenu(0);
        x.addNumber(0, -5, 20, 3);
        x.addChoice(0, 4);
        x.addNumber(1, 0, 9, 1);
        return x;
    }

    private static void turnBrowsing() {
        KnobMenu x = mixed();
        Check.equal("turn(1)", x.turn(1), 1);
        Check.equal("turn(5) is not doubled, and stops", x.turn(5), 2);
        Check.equal("turn(-1)", x.turn(-1), 1);
        Check.equal("turn(-50)", x.turn(-50), 0);
        Check.equal("turn(0)", x.turn(0), 0);
        Check.equal("turn(50)", x.turn(50), 2);
        x.turn(-50);
        x.press();
        Check.equal("turn to back", x.turn(2), 1);
        Check.equal("chosen()", x.chosen(), KnobMenu.NONE);
    }

    private static void turnAround() {
        KnobMenu x = mixed();
        x.set(2, 1);
        Check.equal("turn(-1)", x.turn(-1), 2);
        Check.equal("turn(1)", x.turn(1), 0);
        Check.equal("turn(50)", x.turn(50), 2);
        Check.equal("turn(-50)", x.turn(-50), 0);
        x.press();
        Check.equal("turn(-1) in menu 1", x.turn(-1), 1);
        Check.equal("turn(1) in menu 1", x.turn(1), 0);
    }

    private static void turnWithoutEntry() {
        KnobMenu x = new KnobMenu();
        Check.equal("turn(3)", x.turn(3), 0);
        x.set(2, 1);
        Check.equal("turn(3) around", x.turn(3), 0);
        Check.equal("turn(-3) around", x.turn(-3), 0);
        Check.equal("events(0)", x.events(0), 9);
        Check.equal("cursor()", x.cursor(), 0);
    }

    private static void turnNumber() {
        KnobMenu x = new KnobMenu();
        x.addNumber(0, -100, 100, 3);
        x.press();
        Check.equal("turn(4)", x.turn(4), -88);
        Check.equal("turn(5)", x.turn(5), -58);
        Check.equal("turn(-4)", x.turn(-4), -70);
        Check.equal("turn(-5)", x.turn(-5), -100);
        Check.equal("turn(-1) at the low limit", x.turn(-1), -100);
        Check.equal("turn(6)", x.turn(6), -64);
        Check.equal("turn(50)", x.turn(50), 100);
        Check.equal("turn(1) at the high limit", x.turn(1), 100);
        Check.equal("turn(-6)", x.turn(-6), 64);
        x.set(2, 1);
        Check.equal("a number does not go around", x.turn(50), 100);
        Check.equal("turn(0)", x.turn(0), 100);
        Check.equal("value(1) before the press", x.value(1), -100);
    }

    private static void turnChoice() {
        KnobMenu x = new KnobMenu();
        x.addChoice(0, 9);
        x.press();
        Check.equal("turn(-1)", x.turn(-1), 8);
        Check.equal("turn(1)", x.turn(1), 0);
        Check.equal("turn(6) is not doubled", x.turn(6), 6);
        Check.equal("turn(50)", x.turn(50), 2);
        Check.equal("turn(-50)", x.turn(-50), 6);
        Check.equal("draft()", x.draft(), 6);
    }

    private static void turnDigits() {
        KnobMenu x = new KnobMenu();
        x.addChoice(0, 9);
        x.lock(1, 9130);
        x.press();
        Check.equal("turn(-1)", x.turn(-1), 9);
        Check.equal("turn(1)", x.turn(1), 0);
        Check.equal("turn(49) is not doubled", x.turn(49), 9);
        Check.equal("press", x.press(), 6);
        Check.equal("turn(0)", x.turn(0), 0);
        Check.equal("turn(-50)", x.turn(-50), 0);
        Check.equal("turn(-9)", x.turn(-9), 1);
        Check.equal("press", x.press(), 6);
        Check.equal("turn(3)", x.turn(3), 3);
        Check.equal("press", x.press(), 6);
        Check.equal("press", x.press(), 7);
    }

    private static void turnRefused() {
        KnobMenu x = mixed();
        x.turn(1);
        x.tick(3);
        int[] bad = {51, -51, Integer.MIN_VALUE, Integer.MAX_VALUE};
        for (int detents : bad) {
            Check.badArgument(x, "turn(" + detents + ")", () -> x.turn(detents));
        }
        Check.equal("idle()", x.idle(), 3);
        x.turn(0);
        Check.equal("idle() after turn(0)", x.idle(), 0);
    }

    private static void pressThroughMenus() {
        KnobMenu x = new KnobMenu();
        x.addChoice(0, 2);
        x.addMenu(0);
        x.addMenu(2);
        x.addMenu(2);
        x.turn(1);
        Check.equal("press on menu 2", x.press(), 2);
        Check.equal("shown()", x.shown(), 2);
        Check.equal("cursor()", x.cursor(), 0);
        x.turn(1);
        Check.equal("press on menu 4", x.press(), 2);
        Check.equal("shown()", x.shown(), 4);
        Check.equal("press on back", x.press(), 1);
        Check.equal("shown()", x.shown(), 2);
        Check.equal("cursor()", x.cursor(), 1);
        x.turn(1);
        Check.equal("press on back", x.press(), 1);
        Check.equal("shown()", x.shown(), 0);
        Check.equal("cursor()", x.cursor(), 1);
        Check.equal("events(1)", x.events(1), 4);
    }

    private static void pressWithoutEntry() {
        KnobMenu x = new KnobMenu();
        x.tick(4);
        Check.equal("press()", x.press(), 0);
        Check.equal("idle()", x.idle(), 0);
        Check.equal("events(1)", x.events(1), 1);
        Check.isTrue("isHome()", x.isHome());
    }

    private static void pressEdit() {
        KnobMenu x = mixed();
        x.turn(1);
        Check.equal("press", x.press(), 3);
        Check.equal("mode()", x.mode(), 1);
        Check.equal("draft()", x.draft(), -5);
        x.turn(1);
        Check.equal("press", x.press(), 4);
        Check.equal("mode()", x.mode(), 0);
        Check.equal("draft()", x.draft(), 0);
        Check.equal("value(2)", x.value(2), -2);
        Check.equal("logged()", x.logged(), 1);
        Check.equal("press again", x.press(), 3);
        Check.equal("draft()", x.draft(), -2);
        Check.equal("press without a change", x.press(), 4);
        Check.equal("logged()", x.logged(), 1);
        Check.equal("events(2)", x.events(2), 1);
        Check.equal("cursor()", x.cursor(), 1);
    }

    private static void pressCode() {
        KnobMenu x = new KnobMenu();
        x.addNumber(0, 0, 9, 1);
        x.lock(1, 123);
        Check.equal("press", x.press(), 5);
        Check.equal("mode()", x.mode(), 2);
        Check.equal("press", x.press(), 6);
        x.turn(1);
        Check.equal("press", x.press(), 6);
        x.turn(2);
        x.hold();
        Check.equal("all digits are 0 again", Check.enter(x, 123), 7);
        Check.equal("mode()", x.mode(), 0);
        Check.isFalse("isClosed(1)", x.isClosed(1));
        Check.isFalse("isHome()", x.isHome());
        Check.equal("press on the open item", x.press(), 3);
        x.turn(1);
        Check.equal("press", x.press(), 4);
        Check.equal("value(1)", x.value(1), 1);
        Check.isFalse("isClosed(1) stays open", x.isClosed(1));
    }

    private static void wrongCodes() {
        KnobMenu x = new KnobMenu();
        x.addMenu(0);
        x.lock(1, 4321);
        Check.equal("wrong", Check.enter(x, 4322), 8);
        Check.equal("wrong", Check.enter(x, 1234), 8);
        Check.equal("barred()", x.barred(), 0);
        Check.equal("right", Check.enter(x, 4321), 7);
        x.hold();
        Check.equal("wrong", Check.enter(x, 0), 8);
        Check.equal("wrong", Check.enter(x, 0), 8);
        Check.equal("barred() counts from the right code", x.barred(), 0);
        x.hold();
        x.lock(1, 7);
        Check.equal("wrong, after home", Check.enter(x, 0), 8);
        Check.equal("barred()", x.barred(), 30);
        Check.equal("events(4)", x.events(4), 5);
        Check.equal("events(5)", x.events(5), 1);
        Check.equal("mode()", x.mode(), 0);
        Check.isTrue("isClosed(1)", x.isClosed(1));
        x.tick(30);
        Check.equal("wrong", Check.enter(x, 0), 8);
        Check.equal("wrong", Check.enter(x, 0), 8);
        Check.equal("barred() counts from the bar", x.barred(), 0);
        Check.equal("wrong", Check.enter(x, 0), 8);
        Check.equal("barred()", x.barred(), 30);
        Check.equal("events(5)", x.events(5), 2);
    }

    private static void wrongCodesOfAllItems() {
        KnobMenu x = new KnobMenu();
        for (int i = 1; i <= 3; i++) {
            x.addChoice(0, 2);
            x.lock(i, 5000 + i);
        }
        Check.equal("wrong", Check.enter(x, 1), 8);
        x.turn(1);
        Check.equal("wrong", Check.enter(x, 1), 8);
        x.turn(1);
        x.press();
        x.hold();
        Check.equal("a dropped code does not count", x.barred(), 0);
        Check.equal("the code of another item", Check.enter(x, 5001), 8);
        Check.equal("barred()", x.barred(), 30);
        Check.isTrue("isClosed(1)", x.isClosed(1));
    }

    private static void barredDevice() {
        KnobMenu x = new KnobMenu();
        x.addChoice(0, 2);
        x.addChoice(0, 2);
        x.lock(1, 1);
        for (int i = 0; i < 3; i++) {
            Check.enter(x, 0);
        }
        x.tick(5);
        int presses = x.events(1);
        Check.equal("press", x.press(), 9);
        Check.equal("idle()", x.idle(), 0);
        Check.equal("events(1)", x.events(1), presses + 1);
        Check.equal("mode()", x.mode(), 0);
        Check.equal("barred()", x.barred(), 25);
        x.turn(1);
        Check.equal("press on an item without a lock", x.press(), 3);
        x.press();
        x.hold();
        Check.equal("barred() at home", x.barred(), 25);
        x.tick(24);
        Check.equal("press", x.press(), 9);
        x.tick(1);
        Check.equal("barred()", x.barred(), 0);
        Check.equal("press", x.press(), 5);
        x.hold();
        x.tick(3);
        Check.equal("barred() stays 0", x.barred(), 0);
    }

    private static void hold() {
        KnobMenu x = mixed();
        x.lock(2, 8);
        x.press();
        x.turn(1);
        x.tick(2);
        Check.equal("hold browsing", x.hold(), 0);
        Check.equal("idle()", x.idle(), 0);
        Check.isTrue("isHome()", x.isHome());
        Check.equal("shown()", x.shown(), 0);
        x.turn(2);
        x.press();
        x.turn(1);
        x.tick(1);
        Check.equal("hold editing", x.hold(), 1);
        Check.equal("idle()", x.idle(), 0);
        Check.equal("cursor() stays", x.cursor(), 2);
        Check.equal("value(3) stays", x.value(3), 0);
        Check.equal("events(2)", x.events(2), 0);
        x.turn(-1);
        x.press();
        Check.equal("hold asking", x.hold(), 2);
        Check.equal("mode()", x.mode(), 0);
        Check.equal("cursor() stays", x.cursor(), 1);
        Check.enter(x, 8);
        Check.isFalse("isClosed(2)", x.isClosed(2));
        Check.equal("hold with an open item", x.hold(), 0);
        Check.isTrue("isClosed(2)", x.isClosed(2));
        Check.equal("hold at home", x.hold(), 0);
        Check.isTrue("isHome()", x.isHome());
        Check.equal("events(1) counts no holds", x.events(1), 8);
    }

    private static void tickTimeouts() {
        KnobMenu x = mixed();
        Check.equal("no timeout at home", x.tick(99), 0);
        x.turn(1);
        x.press();
        x.turn(1);
        Check.equal("tick(9)", x.tick(9), 0);
        Check.equal("mode()", x.mode(), 1);
        Check.equal("tick(1)", x.tick(1), 1);
        Check.equal("mode()", x.mode(), 0);
        Check.equal("value(2)", x.value(2), -5);
        Check.equal("tick(19)", x.tick(19), 0);
        Check.equal("cursor()", x.cursor(), 1);
        Check.equal("tick(1)", x.tick(1), 1);
        Check.isTrue("isHome()", x.isHome());
        Check.equal("idle()", x.idle(), 30);
        Check.equal("events(6)", x.events(6), 2);
        Check.equal("events(7)", x.events(7), 129);
        x.lock(2, 3);
        x.turn(1);
        Check.enter(x, 3);
        Check.equal("tick(30)", x.tick(30), 1);
        Check.isTrue("isClosed(2)", x.isClosed(2));
        x.turn(1);
        x.press();
        Check.equal("asking: tick(99)", x.tick(99), 2);
    }

    private static void tickBothTimeouts() {
        KnobMenu x = mixed();
        x.set(0, 7);
        x.set(1, 7);
        x.turn(1);
        x.press();
        Check.equal("tick(6)", x.tick(6), 0);
        Check.equal("two timeouts in one tick", x.tick(1), 2);
        Check.isTrue("isHome()", x.isHome());
        x.turn(-50);
        x.addChoice(0, 2);
        KnobMenu y = new KnobMenu();
        y.addChoice(0, 2);
        y.set(0, 7);
        y.set(1, 7);
        y.press();
        Check.equal("one timeout at the root's first entry", y.tick(7), 1);
        Check.isTrue("isHome()", y.isHome());
        y.set(1, 5);
        y.press();
        y.turn(1);
        Check.equal("home while it edits", y.tick(5), 1);
        Check.isTrue("isHome()", y.isHome());
        Check.equal("value(1)", y.value(1), 0);
        Check.equal("nothing left for setting 0", y.tick(2), 0);
    }

    private static void tickPassedSettings() {
        KnobMenu x = mixed();
        x.turn(1);
        x.tick(20);
        x.set(1, 20);
        Check.equal("the idle time has passed setting 1", x.tick(99), 0);
        Check.isFalse("isHome()", x.isHome());
        x.turn(0);
        Check.equal("it passes again", x.tick(20), 1);
        x.turn(1);
        x.press();
        x.tick(5);
        x.set(0, 5);
        x.set(1, 5);
        Check.equal("both are passed", x.tick(99), 0);
        Check.equal("mode()", x.mode(), 1);
    }

    private static void tickRefused() {
        KnobMenu x = mixed();
        int[] bad = {0, -1, 100, Integer.MIN_VALUE, Integer.MAX_VALUE};
        for (int ticks : bad) {
            Check.badArgument(x, "tick(" + ticks + ")", () -> x.tick(ticks));
        }
        Check.equal("events(7)", x.events(7), 0);
    }

    private static void set() {
        KnobMenu x = mixed();
        Check.equal("set(0, 60)", x.set(0, 60), 10);
        Check.equal("set(0, 1)", x.set(0, 1), 60);
        Check.equal("set(0, 2)", x.set(0, 2), 1);
        Check.equal("set(1, 99)", x.set(1, 99), 30);
        Check.equal("set(1, 1)", x.set(1, 1), 99);
        Check.equal("set(1, 2)", x.set(1, 2), 1);
        Check.equal("set(2, 1)", x.set(2, 1), 0);
        Check.equal("set(2, 0)", x.set(2, 0), 1);
        Check.noSuch(x, "set(-1, 1)", () -> x.set(-1, 1));
        Check.noSuch(x, "set(3, 1)", () -> x.set(3, 1));
        Check.noSuch(x, "set(3, -5)", () -> x.set(3, -5));
        Check.badArgument(x, "set(0, 0)", () -> x.set(0, 0));
        Check.badArgument(x, "set(0, 61)", () -> x.set(0, 61));
        Check.badArgument(x, "set(1, 0)", () -> x.set(1, 0));
        Check.badArgument(x, "set(1, 100)", () -> x.set(1, 100));
        Check.badArgument(x, "set(2, -1)", () -> x.set(2, -1));
        Check.badArgument(x, "set(2, 2)", () -> x.set(2, 2));
        Check.equal("setting 0 stays", x.set(0, 10), 2);
        Check.equal("setting 1 stays", x.set(1, 30), 2);
        Check.equal("setting 2 stays", x.set(2, 0), 0);
        x.turn(1);
        x.tick(3);
        x.set(0, 5);
        Check.equal("idle() stays", x.idle(), 3);
    }
}
