/** Promises 16 to 18: edits that are taken back, and presets. */
public final class LogPresetTest {
    public static void main(String[] args) {
        takeBack();
        takeBackOldestRemoved();
        takeBackWhileEditing();
        savePreset();
        loadPreset();
        loadPresetOfFewerItems();
        emptyPreset();
        Check.end("LogPresetTest");
    }

    private static KnobMenu two() {
        KnobMenu x = new KnobMenu();
        x.addNumber(0, 0, 100, 1);
        x.addChoice(0, 5);
        return x;
    }

    private static void takeBack() {
        KnobMenu x = two();
        Check.badState(x, "takeBack of nothing", () -> x.takeBack());
        Check.edit(x, 3);
        Check.edit(x, 4);
        x.turn(1);
        Check.edit(x, 2);
        x.tick(4);
        Check.equal("logged()", x.logged(), 3);
        Check.equal("takeBack", x.takeBack(), 2);
        Check.equal("value(2)", x.value(2), 0);
        Check.equal("idle() stays", x.idle(), 4);
        Check.equal("takeBack", x.takeBack(), 1);
        Check.equal("value(1)", x.value(1), 3);
        Check.equal("takeBack", x.takeBack(), 1);
        Check.equal("value(1)", x.value(1), 0);
        Check.equal("logged()", x.logged(), 0);
        Check.equal("events(2)", x.events(2), 3);
        Check.equal("events(3)", x.events(3), 3);
        Check.badState(x, "takeBack of nothing more", () -> x.takeBack());
        Check.equal("mode()", x.mode(), 0);
        Check.equal("cursor()", x.cursor(), 1);
    }

    private static void takeBackOldestRemoved() {
        KnobMenu x = two();
        for (int i = 1; i <= 10; i++) {
            Check.edit(x, 1);
            Check.equal("logged()", x.logged(), Math.min(i, 8));
        }
        for (int i = 9; i >= 2; i--) {
            Check.equal("takeBack", x.takeBack(), 1);
            Check.equal("value(1)", x.value(1), i);
        }
        Check.badState(x, "takeBack of a removed edit", () -> x.takeBack());
        Check.equal("events(2)", x.events(2), 10);
        Check.equal("events(3)", x.events(3), 8);
    }

    private static void takeBackWhileEditing() {
        KnobMenu x = two();
        Check.edit(x, 3);
        x.press();
        x.turn(1);
        Check.equal("takeBack", x.takeBack(), 1);
        Check.equal("draft() stays", x.draft(), 4);
        Check.equal("mode() stays", x.mode(), 1);
        Check.equal("value(1)", x.value(1), 0);
        Check.equal("press", x.press(), 4);
        Check.equal("logged()", x.logged(), 1);
        x.press();
        x.turn(-4);
        x.takeBack();
        Check.equal("value(1)", x.value(1), 0);
        x.press();
        Check.equal("an edit to the value taken back is none", x.logged(), 0);
        Check.equal("events(2)", x.events(2), 2);
    }

    private static void savePreset() {
        KnobMenu x = new KnobMenu();
        Check.equal("savePreset(0) of the root", x.savePreset(0), 0);
        Check.equal("loadPreset(0) of the root", x.loadPreset(0), 0);
        x.addMenu(0);
        x.addNumber(0, 0, 9, 1);
        x.addChoice(1, 3);
        Check.equal("savePreset(1)", x.savePreset(1), 2);
        int[] bad = {-1, 2, Integer.MIN_VALUE, Integer.MAX_VALUE};
        for (int preset : bad) {
            Check.badArgument(x, "savePreset(" + preset + ")", () -> x.savePreset(preset));
            Check.badArgument(x, "loadPreset(" + preset + ")", () -> x.loadPreset(preset));
        }
    }

    private static void loadPreset() {
        KnobMenu x = two();
        Check.edit(x, 3);
        Check.equal("savePreset(0)", x.savePreset(0), 2);
        Check.equal("logged() stays", x.logged(), 1);
        Check.edit(x, 4);
        x.turn(1);
        Check.edit(x, 2);
        Check.equal("savePreset(1)", x.savePreset(1), 2);
        x.press();
        x.turn(1);
        x.tick(2);
        Check.equal("loadPreset(0)", x.loadPreset(0), 2);
        Check.equal("value(1)", x.value(1), 3);
        Check.equal("value(2)", x.value(2), 0);
        Check.equal("draft() stays", x.draft(), 3);
        Check.equal("idle() stays", x.idle(), 2);
        Check.equal("logged()", x.logged(), 0);
        Check.badState(x, "takeBack", () -> x.takeBack());
        Check.equal("press", x.press(), 4);
        Check.equal("value(2)", x.value(2), 3);
        Check.equal("loadPreset(1)", x.loadPreset(1), 2);
        Check.equal("value(1)", x.value(1), 7);
        Check.equal("value(2)", x.value(2), 2);
        Check.edit(x, 1);
        x.press();
        x.turn(-1);
        x.press();
        Check.equal("loadPreset(1) without a change", x.loadPreset(1), 0);
        Check.equal("logged()", x.logged(), 0);
        Check.equal("events(2)", x.events(2), 6);
        x.savePreset(0);
        Check.equal("loadPreset(0) in place of the old one", x.loadPreset(0), 0);
        Check.edit(x, 2);
        Check.equal("loadPreset(0) of one item", x.loadPreset(0), 1);
    }

    private static void loadPresetOfFewerItems() {
        KnobMenu x = two();
        x.savePreset(0);
        x.addMenu(0);
        x.addNumber(0, -5, 5, 1);
        x.turn(3);
        Check.edit(x, 2);
        Check.equal("loadPreset(0)", x.loadPreset(0), 0);
        Check.equal("value(4) stays", x.value(4), -3);
        Check.equal("logged()", x.logged(), 0);
    }

    private static void emptyPreset() {
        KnobMenu x = two();
        Check.badState(x, "loadPreset(0)", () -> x.loadPreset(0));
        Check.edit(x, 1);
        x.savePreset(0);
        Check.badState(x, "loadPreset(1)", () -> x.loadPreset(1));
        Check.equal("logged() stays", x.logged(), 1);
    }
}
