import java.util.function.Supplier;

/** Each sentence about the log and the presets (promises 16 to 18 and 26) that names a boundary case. */
public final class LogPresetBoundaryTest {
    public static void main(String[] args) throws IllegalAccessException {
        Check.sentences(LogPresetBoundaryTest.class);
    }

    /** Numbers 1 and 2 from 0 to 100, and choice 3. */
    private static KnobMenu three() {
        KnobMenu x = new KnobMenu();
        x.addNumber(0, 0, 100, 1);
        x.addNumber(0, 0, 100, 1);
        x.addChoice(0, 4);
        return x;
    }

    /** So many edits of number 1, each by 1. */
    private static KnobMenu edited(int edits) {
        KnobMenu x = three();
        for (int i = 0; i < edits; i++) {
            Check.edit(x, 1);
        }
        return x;
    }

    private static KnobMenu full() {
        KnobMenu x = new KnobMenu();
        for (int i = 0; i < 3; i++) {
            x.addMenu(0);
        }
        for (int i = 4; i < 24; i++) {
            if (i % 2 == 0) {
                x.addNumber((i - 4) / 8 + 1, -5, 5, 1);
            } else {
                x.addChoice((i - 4) / 8 + 1, 4);
            }
        }
        return x;
    }

    @Sentence(promises = {16, 26}, says = "The log contains the latest edits, at most 8 of them; when one more is added, the"
        + " oldest one is removed.")
    static void atMostEightEdits() {
        int[] edits = {7, 8, 9, 10, 16, 17};
        for (int many : edits) {
            KnobMenu x = edited(many);
            int kept = Math.min(many, 8);
            Check.equal("logged() after " + many, x.logged(), kept);
            for (int i = 1; i <= kept; i++) {
                Check.equal("takeBack()", x.takeBack(), 1);
                Check.equal("value(1)", x.value(1), many - i);
                Check.equal("logged()", x.logged(), kept - i);
            }
            Check.equal("events(2)", x.events(2), many);
            Check.equal("events(3)", x.events(3), kept);
            Refused.badState(() -> takenBack(edited(many), kept), "takeBack() after all", y -> y.takeBack());
        }
    }

    private static KnobMenu takenBack(KnobMenu x, int edits) {
        for (int i = 0; i < edits; i++) {
            x.takeBack();
        }
        return x;
    }

    @Sentence(promises = {16, 26}, says = "when one more is added, the oldest one is removed")
    static void theOldestEditOfAnotherItem() {
        KnobMenu x = three();
        x.turn(1);
        Check.edit(x, 3);
        x.turn(-1);
        for (int i = 0; i < 7; i++) {
            Check.edit(x, 1);
        }
        Check.equal("logged()", x.logged(), 8);
        x.turn(2);
        Check.edit(x, 1);
        Check.equal("logged()", x.logged(), 8);
        Check.equal("takeBack() of the latest", x.takeBack(), 3);
        for (int i = 0; i < 7; i++) {
            Check.equal("takeBack()", x.takeBack(), 1);
        }
        Check.equal("logged() at the end", x.logged(), 0);
        Check.equal("value(1)", x.value(1), 0);
        Check.equal("value(2) of the removed edit", x.value(2), 3);
        Check.equal("value(3)", x.value(3), 0);
    }

    @Sentence(promises = {16, 26}, says = "the item gets the value that it had before this edit, and the edit is removed from"
        + " the log")
    static void placesAreTakenAgain() {
        KnobMenu x = edited(8);
        takenBack(x, 3);
        Check.equal("logged()", x.logged(), 5);
        for (int i = 0; i < 4; i++) {
            Check.edit(x, 10);
        }
        Check.equal("logged()", x.logged(), 8);
        Check.equal("value(1)", x.value(1), 85);
        int[] before = {65, 45, 25, 5, 4, 3, 2, 1};
        for (int value : before) {
            x.takeBack();
            Check.equal("value(1)", x.value(1), value);
        }
        Check.equal("logged()", x.logged(), 0);
    }

    @Sentence(promises = {16}, says = "Throws `IllegalStateException` if the log is empty")
    static void anEmptyLog() {
        Refused.badState(KnobMenu::new, "takeBack() on a new object", x -> x.takeBack());
        Refused.badState(() -> edited(0), "takeBack() before an edit", x -> x.takeBack());
        Refused.badState(() -> takenBack(edited(1), 1), "takeBack() twice", x -> x.takeBack());
        Refused.badState(LogPresetBoundaryTest::loaded, "takeBack() after loadPreset", x -> x.takeBack());
        for (Scene scene : Scene.values()) {
            Check.equal("takeBack() in " + scene, scene.get().takeBack(), 3);
            Refused.badState(() -> takenBack(scene.get(), 4), "takeBack() of a fifth", x -> x.takeBack());
        }
        Check.equal("takeBack() of the only edit", edited(1).takeBack(), 1);
    }

    private static KnobMenu loaded() {
        KnobMenu x = edited(3);
        x.savePreset(0);
        x.loadPreset(0);
        return x;
    }

    @Sentence(promises = {16, 18, 23}, says = "A draft stays as it is.")
    static void theDraftStays() {
        KnobMenu x = Scene.EDITING_CHOICE.get();
        Check.equal("takeBack() of the edited item", x.takeBack(), 3);
        Check.equal("draft()", x.draft(), 3);
        Check.equal("mode()", x.mode(), 1);
        Check.equal("value(3)", x.value(3), 0);
        KnobMenu y = Scene.EDITING_NUMBER.get();
        Check.equal("loadPreset(1)", y.loadPreset(1), 2);
        Check.equal("draft()", y.draft(), 21);
        Check.equal("mode()", y.mode(), 1);
        Check.equal("value(2)", y.value(2), 30);
        KnobMenu z = Scene.ASKING.get();
        z.takeBack();
        z.loadPreset(1);
        Check.equal("mode()", z.mode(), 2);
        Check.equal("line 1", Check.line(z, 1), Check.wide("**6-", ""));
    }

    @Sentence(promises = {17, 18}, says = "Throws `IllegalArgumentException` if there is no such preset")
    static void noSuchPreset() {
        int[] bad = {-1, 2, Integer.MIN_VALUE, Integer.MAX_VALUE};
        for (int preset : bad) {
            Refused.badArgumentEver("savePreset(" + preset + ")", x -> x.savePreset(preset));
            Refused.badArgumentEver("loadPreset(" + preset + ")", x -> x.loadPreset(preset));
            Refused.badArgument(KnobMenu::new, "loadPreset(" + preset + ")", x -> x.loadPreset(preset));
        }
        for (Scene scene : Scene.values()) {
            int values = scene == Scene.FULL ? 16 : 4;
            Check.equal("savePreset(0)", scene.get().savePreset(0), values);
            Check.equal("savePreset(1)", scene.get().savePreset(1), values);
        }
    }

    @Sentence(promises = {18}, says = "There are two presets, numbered 0 and 1, which are empty at first.")
    static void presetsAreEmptyAtFirst() {
        for (int i = 0; i < 2; i++) {
            int preset = i;
            Refused.badState(KnobMenu::new, "loadPreset on a new object", x -> x.loadPreset(preset));
            Supplier<KnobMenu> other = () -> {
                KnobMenu x = edited(2);
                x.savePreset(1 - preset);
                return x;
            };
            Refused.badState(other, "loadPreset when the other is saved", x -> x.loadPreset(preset));
            Check.equal("loadPreset of the other", other.get().loadPreset(1 - preset), 0);
        }
        for (Scene scene : Scene.values()) {
            Refused.badState(scene, "loadPreset(0) in " + scene, x -> x.loadPreset(0));
        }
    }

    @Sentence(promises = {17, 18},
        says = "A preset contains the values of all numbers and choices that existed when it was saved; it is not empty then,"
            + " even if there were none.")
    static void aPresetWithoutValues() {
        KnobMenu x = new KnobMenu();
        Check.equal("savePreset(0)", x.savePreset(0), 0);
        Check.equal("loadPreset(0)", x.loadPreset(0), 0);
        x.addMenu(0);
        Check.equal("savePreset(1) with a menu", x.savePreset(1), 0);
        x.addNumber(0, 0, 9, 1);
        x.turn(1);
        Check.edit(x, 3);
        Check.equal("loadPreset(0)", x.loadPreset(0), 0);
        Check.equal("value(2) stays", x.value(2), 3);
        Check.equal("the log is empty", x.logged(), 0);
    }

    @Sentence(promises = {17, 18}, says = "the values of all numbers and choices that existed when it was saved")
    static void aPresetOfAllItems() {
        KnobMenu x = full();
        Check.equal("savePreset(0)", x.savePreset(0), 20);
        for (int menu = 0; menu < 3; menu++) {
            x.press();
            x.turn(50);
            x.turn(-1);
            Check.edit(x, 3);
            x.turn(-50);
            Check.edit(x, 3);
            x.turn(50);
            x.press();
            x.turn(1);
        }
        int[] changed = {4, 11, 12, 19, 20, 23};
        for (int item : changed) {
            Check.equal("value of an edited item", x.value(item), item % 2 == 0 ? -2 : 3);
        }
        Check.equal("savePreset(1)", x.savePreset(1), 20);
        Check.equal("loadPreset(0)", x.loadPreset(0), 6);
        Check.equal("loadPreset(0) again", x.loadPreset(0), 0);
        for (int item = 4; item < 24; item++) {
            Check.equal("value", x.value(item), item % 2 == 0 ? -5 : 0);
        }
        Check.equal("loadPreset(1)", x.loadPreset(1), 6);
        for (int item : changed) {
            Check.equal("value of an edited item", x.value(item), item % 2 == 0 ? -2 : 3);
        }
    }

    @Sentence(promises = {18}, says = "that existed when it was saved")
    static void itemsThatCameLater() {
        KnobMenu x = edited(1);
        x.hold();
        x.savePreset(1);
        x.addNumber(0, 5, 9, 1);
        x.turn(3);
        Check.edit(x, 2);
        x.turn(-3);
        Check.edit(x, 4);
        Check.equal("loadPreset(1)", x.loadPreset(1), 1);
        Check.equal("value(1)", x.value(1), 1);
        Check.equal("value(4) stays", x.value(4), 7);
        Check.equal("savePreset(1) in place of it", x.savePreset(1), 4);
        x.turn(3);
        Check.edit(x, -1);
        Check.equal("loadPreset(1)", x.loadPreset(1), 1);
        Check.equal("value(4)", x.value(4), 7);
    }

    @Sentence(promises = {17}, says = "in place of what it contained")
    static void aPresetInPlaceOfAnother() {
        KnobMenu x = edited(1);
        x.savePreset(0);
        Check.edit(x, 1);
        x.savePreset(0);
        Check.edit(x, 1);
        Check.equal("loadPreset(0)", x.loadPreset(0), 1);
        Check.equal("value(1)", x.value(1), 2);
        x.savePreset(1);
        Check.edit(x, 1);
        x.savePreset(0);
        Check.equal("loadPreset(1)", x.loadPreset(1), 1);
        Check.equal("value(1) of preset 1", x.value(1), 2);
        Check.equal("loadPreset(0)", x.loadPreset(0), 1);
        Check.equal("value(1) of preset 0", x.value(1), 3);
    }

    @Sentence(promises = {17}, says = "Saves the values of all numbers and choices in a preset")
    static void savingLeavesTheRest() {
        for (Scene scene : Scene.values()) {
            KnobMenu x = scene.get();
            long before = x.digest();
            x.savePreset(0);
            Check.equal("digest()", x.digest(), before);
            Check.equal("takeBack()", x.takeBack(), 3);
        }
        KnobMenu x = Scene.EDITING_NUMBER.get();
        x.savePreset(0);
        x.press();
        Check.equal("the draft was not saved", x.loadPreset(0), 1);
        Check.equal("value(2)", x.value(2), 27);
    }

    @Sentence(promises = {18, 26},
        says = "all items whose values it contains get these values, and the log becomes empty")
    static void loadingEmptiesTheLog() {
        for (int edits = 0; edits <= 9; edits++) {
            KnobMenu x = three();
            x.savePreset(0);
            for (int i = 0; i < edits; i++) {
                Check.edit(x, 1);
            }
            Check.equal("loadPreset(0)", x.loadPreset(0), edits == 0 ? 0 : 1);
            Check.equal("logged()", x.logged(), 0);
            Check.equal("value(1)", x.value(1), 0);
            Check.edit(x, 3);
            Check.equal("logged() after an edit", x.logged(), 1);
            Check.equal("takeBack()", x.takeBack(), 1);
            Check.equal("value(1)", x.value(1), 0);
        }
    }

    @Sentence(promises = {18}, says = "Returns the number of items whose values are changed by this.")
    static void changedItems() {
        KnobMenu x = three();
        x.savePreset(0);
        for (int items = 1; items <= 3; items++) {
            x.hold();
            for (int i = 0; i < items; i++) {
                Check.edit(x, 2);
                x.turn(1);
            }
            Check.equal("loadPreset(0)", x.loadPreset(0), items);
            Check.equal("loadPreset(0) again", x.loadPreset(0), 0);
        }
        Check.edit(x, 1);
        Check.edit(x, -1);
        Check.equal("loadPreset(0) of a value that came back", x.loadPreset(0), 0);
    }

    @Sentence(promises = {16, 29}, says = "3 edits that were taken back")
    static void whatTakingBackCounts() {
        KnobMenu x = edited(3);
        x.takeBack();
        x.takeBack();
        Check.equal("events(2)", x.events(2), 3);
        Check.equal("events(3)", x.events(3), 2);
        x.savePreset(0);
        Check.edit(x, 1);
        x.loadPreset(0);
        Check.equal("events(2)", x.events(2), 4);
        Check.equal("events(3) after loadPreset", x.events(3), 2);
    }
}
