/** Each sentence about the cursor and about turning (promises 11 and 30) that names a boundary case. */
public final class TurnBoundaryTest {
    public static void main(String[] args) throws IllegalAccessException {
        Check.sentences(TurnBoundaryTest.class);
    }

    private static void turns(KnobMenu x, int detents, int due) {
        Check.equal("ifTurned(" + detents + ")", x.ifTurned(detents), due);
        Check.equal("turn(" + detents + ")", x.turn(detents), due);
    }

    /** A root with this many entries. */
    private static KnobMenu row(int entries) {
        KnobMenu x = new KnobMenu();
        for (int i = 0; i < entries; i++) {
            x.addMenu(0);
        }
        return x;
    }

    /** A menu with this many entries is shown, back among them. */
    private static KnobMenu inner(int entries) {
        KnobMenu x = row(1);
        for (int i = 1; i < entries; i++) {
            x.addChoice(1, 2);
        }
        x.press();
        return x;
    }

    private static KnobMenu number(int low, int high, int step) {
        KnobMenu x = new KnobMenu();
        x.addNumber(0, low, high, step);
        x.press();
        return x;
    }

    private static KnobMenu choice(int options) {
        KnobMenu x = new KnobMenu();
        x.addChoice(0, options);
        x.press();
        return x;
    }

    private static KnobMenu asking() {
        KnobMenu x = row(1);
        x.lock(1, 5);
        x.press();
        return x;
    }

    private static void stops(KnobMenu x, int entries) {
        int last = entries - 1;
        turns(x, last, last);
        turns(x, 0, last);
        turns(x, 1, last);
        turns(x, 50, last);
        turns(x, -last, 0);
        turns(x, -1, 0);
        turns(x, -50, 0);
        turns(x, entries, last);
        turns(x, -entries, 0);
        turns(x, 50, last);
        turns(x, -50, 0);
        Check.equal("cursor()", x.cursor(), 0);
    }

    @Sentence(promises = {11, 21, 30}, says = "If the setting 2 is 0, it stops at the first and at the last entry.")
    static void theCursorStops() {
        for (int entries = 1; entries <= 8; entries++) {
            stops(row(entries), entries);
        }
        for (int entries = 1; entries <= 9; entries++) {
            stops(inner(entries), entries);
        }
    }

    private static void goesAround(KnobMenu x, int entries) {
        int last = entries - 1;
        x.set(2, 1);
        turns(x, last, last);
        turns(x, 1, 0);
        turns(x, -1, last);
        turns(x, -last, 0);
        turns(x, entries, 0);
        turns(x, -entries, 0);
        turns(x, entries + 1, 1 % entries);
        turns(x, -1 - entries, 0);
        turns(x, 50, 50 % entries);
        turns(x, -50, 0);
        turns(x, -50, (50 * entries - 50) % entries);
        turns(x, 50, 0);
        Check.equal("cursor()", x.cursor(), 0);
    }

    @Sentence(promises = {11, 21, 30},
        says = "If the setting 2 is 1, it goes from the last entry to the first one and back.")
    static void theCursorGoesAround() {
        for (int entries = 1; entries <= 8; entries++) {
            goesAround(row(entries), entries);
        }
        for (int entries = 1; entries <= 9; entries++) {
            goesAround(inner(entries), entries);
        }
    }

    @Sentence(promises = {11, 21, 30}, says = "Without an entry, the cursor stays 0.")
    static void noEntry() {
        KnobMenu x = row(0);
        for (int around = 0; around <= 1; around++) {
            x.set(2, around);
            int[] detents = {0, 1, -1, 50, -50};
            for (int detent : detents) {
                turns(x, detent, 0);
            }
            Check.equal("cursor()", x.cursor(), 0);
            Check.isTrue("isHome()", x.isHome());
        }
        Check.equal("events(0)", x.events(0), 204);
    }

    @Sentence(promises = {21, 22}, says = "The entries of this menu are its items in their order, and one more entry, back,"
        + " at the end if the menu is not the root.")
    static void backAtTheEnd() {
        for (int entries = 1; entries <= 9; entries++) {
            KnobMenu x = inner(entries);
            x.turn(entries - 1);
            Check.equal("chosen() at the end", x.chosen(), KnobMenu.NONE);
            Check.equal("cursor() at the end", x.cursor(), entries - 1);
            if (entries > 1) {
                x.turn(-1);
                Check.equal("chosen() before it", x.chosen(), entries);
            }
        }
        KnobMenu x = row(8);
        x.turn(8);
        Check.equal("chosen() at the end of the root", x.chosen(), 8);
    }

    @Sentence(promises = {11, 23, 30}, says = "the detents are multiplied by 2 if there are 5 or more in either direction,"
        + " and then by the step")
    static void fastDetents() {
        int[] steps = {1, 3, 9};
        for (int step : steps) {
            KnobMenu x = number(-999, 999, step);
            x.turn(50);
            x.turn(5);
            int start = x.draft();
            turns(x, 4, start + 4 * step);
            turns(x, -4, start);
            turns(x, 5, start + 10 * step);
            turns(x, -5, start);
            turns(x, -4, start - 4 * step);
            turns(x, 4, start);
            turns(x, -5, start - 10 * step);
            turns(x, 5, start);
            turns(x, 6, start + 12 * step);
            turns(x, -6, start);
            turns(x, 1, start + step);
            turns(x, -1, start);
            turns(x, 0, start);
            turns(x, -50, start - 100 * step);
            turns(x, 50, start);
        }
        turns(number(-999, 999, 10), 50, 1);
        turns(number(-999, 999, 19), 50, 901);
        turns(number(-999, 999, 20), 50, 999);
    }

    @Sentence(promises = {11, 23, 30},
        says = "The result is added to the draft, which stops at the low limit and at the high limit.")
    static void theDraftStops() {
        KnobMenu x = number(-10, 10, 4);
        turns(x, -1, -10);
        turns(x, 4, 6);
        turns(x, 1, 10);
        turns(x, 1, 10);
        turns(x, -1, 6);
        turns(x, -4, -10);
        turns(x, -50, -10);
        turns(x, 50, 10);
        turns(x, -50, -10);
        KnobMenu y = number(998, 999, 1);
        turns(y, 1, 999);
        turns(y, 1, 999);
        turns(y, -1, 998);
        turns(y, -1, 998);
        KnobMenu z = number(-999, -998, 100);
        turns(z, 50, -998);
        turns(z, 0, -998);
        turns(z, -50, -999);
    }

    @Sentence(promises = {11, 23, 30}, says = "which stops at the low limit and at the high limit")
    static void theDraftReachesTheLimits() {
        KnobMenu x = number(0, 40, 4);
        turns(x, 5, 40);
        turns(x, -5, 0);
        turns(x, 4, 16);
        turns(x, 6, 40);
        turns(x, -4, 24);
        turns(x, -3, 12);
        turns(x, -3, 0);
        x.set(2, 1);
        turns(x, -1, 0);
        turns(x, 50, 40);
        turns(x, 1, 40);
    }

    @Sentence(promises = {11, 23, 30},
        says = "the draft moves by the number of detents, from the last option to the first one and back")
    static void choicesGoAround() {
        for (int options = 2; options <= 9; options++) {
            KnobMenu x = choice(options);
            turns(x, -1, options - 1);
            turns(x, 0, options - 1);
            turns(x, 1, 0);
            turns(x, options - 1, options - 1);
            turns(x, 1 - options, 0);
            turns(x, options, 0);
            turns(x, -options, 0);
            turns(x, 5, 5 % options);
            turns(x, -5, 0);
            turns(x, 50, 50 % options);
            turns(x, -50, 0);
            turns(x, -50, (50 * options - 50) % options);
            turns(x, 50, 0);
        }
    }

    @Sentence(promises = {11, 30}, says = "the digit at the place moves by the number of detents, from 9 to 0 and back")
    static void digitsGoAround() {
        KnobMenu x = asking();
        for (int place = 0; place <= 3; place++) {
            turns(x, 0, 0);
            turns(x, -1, 9);
            turns(x, 1, 0);
            turns(x, 9, 9);
            turns(x, -9, 0);
            turns(x, 10, 0);
            turns(x, -10, 0);
            turns(x, 5, 5);
            turns(x, -5, 0);
            turns(x, 49, 9);
            turns(x, -49, 0);
            turns(x, 50, 0);
            turns(x, -50, 0);
            turns(x, 3, 3);
            x.press();
        }
    }

    @Sentence(promises = {11, 30}, says = "`detents`: -50 to 50")
    static void rangeOfDetents() {
        for (Scene scene : Scene.values()) {
            KnobMenu right = scene.get();
            Check.equal("50 detents", right.ifTurned(50), right.turn(50));
            KnobMenu left = scene.get();
            Check.equal("-50 detents", left.ifTurned(-50), left.turn(-50));
        }
        int[] bad = {51, -51, Integer.MAX_VALUE, Integer.MIN_VALUE};
        for (int detents : bad) {
            Refused.badArgumentEver("turn(" + detents + ")", x -> x.turn(detents));
            Refused.badArgumentEver("ifTurned(" + detents + ")", x -> x.ifTurned(detents));
        }
    }

    @Sentence(promises = {11}, says = "Returns the cursor after the call if the device is browsing; the draft if it is"
        + " editing; the digit at the place if it is asking for a code.")
    static void whatATurnReturns() {
        for (Scene scene : Scene.values()) {
            KnobMenu x = scene.get();
            int answer = x.turn(-1);
            if (x.mode() == 0) {
                Check.equal("the cursor", answer, x.cursor());
            } else if (x.mode() == 1) {
                Check.equal("the draft", answer, x.draft());
            } else {
                Check.equal("the digit", '0' + answer, x.display(1, 2));
            }
        }
        Check.equal("from 6 to 5", Scene.ASKING.get().turn(-1), 5);
        Check.equal("from 21 to 18", Scene.EDITING_NUMBER.get().turn(-1), 18);
        Check.equal("from 3 to 0", Scene.EDITING_CHOICE.get().turn(1), 0);
    }

    @Sentence(promises = {21}, says = "The cursor is the index of an entry, or 0 if there is no entry.")
    static void theCursorStaysWhileItEditsOrAsks() {
        KnobMenu x = Scene.EDITING_NUMBER.get();
        x.turn(50);
        Check.equal("cursor() while it edits", x.cursor(), 1);
        KnobMenu y = Scene.ASKING.get();
        y.turn(50);
        Check.equal("cursor() while it asks", y.cursor(), 0);
        Check.equal("cursor() without an entry", row(0).cursor(), 0);
    }

    @Sentence(promises = {30}, says = "Ahead of the calls `ifTurned`, `pressesTo`, `detentsTo`, `codesTo`, `ticksToHome`,"
        + " `fraction` the interface says: ---- forecasts; they change nothing.")
    static void forecastsChangeNothing() {
        for (Scene scene : Scene.values()) {
            Twin.same("ifTurned", () -> asked(scene, 50), scene);
            Twin.same("ifTurned", () -> asked(scene, 0), scene);
            Twin.same("ifTurned", () -> asked(scene, -50), scene);
        }
    }

    private static KnobMenu asked(Scene scene, int detents) {
        KnobMenu x = scene.get();
        x.ifTurned(detents);
        x.pressesTo(1);
        x.detentsTo(6);
        x.codesTo(6);
        x.ticksToHome();
        x.fraction();
        return x;
    }
}
