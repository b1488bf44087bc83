import java.util.function.Consumer;

/** Each sentence about ticks, timeouts and settings (promises 14, 15, 24, 25 and 34) that names a boundary case. */
public final class TickBoundaryTest {
    public static void main(String[] args) throws IllegalAccessException {
        Check.sentences(TickBoundaryTest.class);
    }

    private static KnobMenu two() {
        KnobMenu x = new KnobMenu();
        x.addNumber(0, 0, 9, 1);
        x.addChoice(0, 4);
        return x;
    }

    private static KnobMenu withTimes(int drop, int home) {
        KnobMenu x = two();
        x.set(0, drop);
        x.set(1, home);
        return x;
    }

    private static void passes(KnobMenu x, int ticks, int due) {
        int timeouts = x.events(6);
        int passed = x.events(7);
        Check.equal("tick(" + ticks + ")", x.tick(ticks), due);
        Check.equal("events(6)", x.events(6), timeouts + due);
        Check.equal("events(7)", x.events(7), passed + ticks);
    }

    private static void becomesZero(String what, KnobMenu x, Consumer<KnobMenu> call) {
        x.tick(3);
        Check.isTrue("idle() before " + what, x.idle() > 0);
        call.accept(x);
        Check.equal("idle() after " + what, x.idle(), 0);
    }

    private static void stays(String what, Consumer<KnobMenu> call) {
        KnobMenu x = Scene.HOME.get();
        call.accept(x);
        Check.equal("idle() after " + what, x.idle(), 9);
    }

    @Sentence(promises = {1, 24}, says = "The idle time is 0 at first.")
    static void idleAtFirst() {
        KnobMenu x = new KnobMenu();
        Check.equal("idle()", x.idle(), 0);
        x.tick(1);
        Check.equal("idle() after a tick", x.idle(), 1);
    }

    @Sentence(promises = {24, 11, 12, 13},
        says = "It becomes 0 whenever the knob is turned (also by 0 detents), pressed or held.")
    static void theKnobEndsTheIdleTime() {
        for (Scene scene : Scene.values()) {
            becomesZero("turn(0)", scene.get(), x -> x.turn(0));
            becomesZero("turn(1)", scene.get(), x -> x.turn(1));
            becomesZero("turn(-50)", scene.get(), x -> x.turn(-50));
            becomesZero("press()", scene.get(), x -> x.press());
            becomesZero("hold()", scene.get(), x -> x.hold());
        }
        becomesZero("turn(0) without an entry", new KnobMenu(), x -> x.turn(0));
        becomesZero("press() without an entry", new KnobMenu(), x -> x.press());
        becomesZero("hold() at home", new KnobMenu(), x -> x.hold());
    }

    @Sentence(promises = {24}, says = "It becomes 0 whenever the knob is turned (also by 0 detents), pressed or held.")
    static void nothingElseEndsTheIdleTime() {
        stays("addMenu", x -> x.addMenu(0));
        stays("addNumber", x -> x.addNumber(0, 0, 1, 1));
        stays("addChoice", x -> x.addChoice(0, 2));
        stays("lock", x -> x.lock(1, 5));
        stays("set", x -> x.set(0, 20));
        stays("takeBack", x -> x.takeBack());
        stays("savePreset", x -> x.savePreset(0));
        stays("loadPreset", x -> x.loadPreset(1));
        stays("ifTurned", x -> x.ifTurned(3));
        stays("append", x -> x.append('p'));
        stays("clearText", x -> x.clearText());
        stays("firstError", x -> x.firstError());
        stays("digest", x -> x.digest());
    }

    @Sentence(promises = {24, 39}, says = "like tick()")
    static void actionsAndTheIdleTime() {
        String[] texts = {"r1", "l50", "p", "h", "p,t99,r1"};
        for (String text : texts) {
            KnobMenu x = Scene.HOME.get();
            x.clearText();
            Check.type(x, text);
            x.run();
            Check.equal("idle() after " + text, x.idle(), 0);
        }
        KnobMenu x = Scene.HOME.get();
        x.clearText();
        Check.type(x, "t1,t99");
        x.run();
        Check.equal("idle() after ticks alone", x.idle(), 109);
    }

    @Sentence(promises = {14, 25}, says = "If the device is barred, the number of ticks for which it is barred decreases by"
        + " 1; it is not barred any more when this is 0.")
    static void theBarEnds() {
        KnobMenu x = two();
        x.lock(1, 5);
        for (int i = 0; i < 3; i++) {
            Check.enter(x, 1);
        }
        for (int left = 30; left >= 1; left--) {
            Check.equal("barred()", x.barred(), left);
            Check.equal("press()", x.press(), 9);
            x.tick(1);
        }
        Check.equal("barred() at the end", x.barred(), 0);
        Check.equal("press()", x.press(), 5);
        x.tick(99);
        Check.equal("barred() later", x.barred(), 0);
    }

    @Sentence(promises = {14, 25}, says = "it is not barred any more when this is 0")
    static void theBarEndsWithinOneCall() {
        int[] ticks = {29, 30, 31, 99};
        int[] left = {1, 0, 0, 0};
        for (int i = 0; i < ticks.length; i++) {
            KnobMenu x = two();
            x.lock(1, 5);
            for (int j = 0; j < 3; j++) {
                Check.enter(x, 1);
            }
            x.hold();
            x.tick(ticks[i]);
            Check.equal("barred() after " + ticks[i], x.barred(), left[i]);
        }
    }

    private static void drops(KnobMenu x, int time) {
        int mode = x.mode();
        if (time > 1) {
            passes(x, time - 1, 0);
        }
        Check.equal("mode() before the timeout", x.mode(), mode);
        Check.equal("idle() before the timeout", x.idle(), time - 1);
        passes(x, 1, 1);
        Check.equal("mode() after the timeout", x.mode(), 0);
        Check.equal("draft() after the timeout", x.draft(), 0);
        Check.equal("shown() after the timeout", x.shown(), 0);
        Check.equal("cursor() after the timeout", x.cursor(), 1);
        Check.equal("value(2) after the timeout", x.value(2), 0);
        Check.equal("idle() after the timeout", x.idle(), time);
    }

    @Sentence(promises = {14, 15, 19}, says = "If the idle time equals the setting 0 and the device is not browsing, the edit"
        + " is dropped, or asking for a code ends, and the device is browsing.")
    static void theEditIsDropped() {
        int[] times = {1, 2, 10, 59, 60};
        for (int time : times) {
            KnobMenu x = withTimes(time, 99);
            x.turn(1);
            x.press();
            x.turn(1);
            drops(x, time);
            x.hold();
            x.lock(2, 5);
            x.turn(1);
            x.press();
            x.turn(3);
            drops(x, time);
            Check.isTrue("isClosed(2)", x.isClosed(2));
        }
    }

    @Sentence(promises = {14}, says = "and the device is not browsing")
    static void browsingIsNotDropped() {
        KnobMenu x = withTimes(10, 99);
        x.turn(1);
        passes(x, 98, 0);
        Check.equal("cursor()", x.cursor(), 1);
        x.press();
        x.press();
        passes(x, 10, 0);
        Check.equal("cursor() after an edit", x.cursor(), 1);
    }

    @Sentence(promises = {14, 15, 27},
        says = "If the idle time equals the setting 1 and the device is not at home, it goes home.")
    static void itGoesHome() {
        int[] times = {1, 2, 30, 98, 99};
        for (int time : times) {
            KnobMenu x = withTimes(10, time);
            x.turn(1);
            if (time > 1) {
                passes(x, time - 1, 0);
            }
            Check.equal("cursor() before the timeout", x.cursor(), 1);
            Check.isFalse("isHome() before the timeout", x.isHome());
            passes(x, 1, 1);
            Check.equal("cursor() after the timeout", x.cursor(), 0);
            Check.isTrue("isHome() after the timeout", x.isHome());
            passes(x, 99, 0);
        }
    }

    @Sentence(promises = {14}, says = "and the device is not at home")
    static void atHomeThereIsNoTimeout() {
        KnobMenu x = withTimes(1, 1);
        passes(x, 1, 0);
        passes(x, 99, 0);
        x.turn(0);
        passes(x, 1, 0);
        Check.isTrue("isHome()", x.isHome());
        Check.equal("events(6)", x.events(6), 0);
    }

    @Sentence(promises = {14, 27}, says = "no item with a lock is open")
    static void anOpenItemIsClosedByTheTimeout() {
        KnobMenu x = two();
        x.lock(1, 0);
        Check.equal("the code", Check.enter(x, 0), 7);
        Check.isFalse("isHome()", x.isHome());
        passes(x, 29, 0);
        Check.isFalse("isClosed(1)", x.isClosed(1));
        passes(x, 1, 1);
        Check.isTrue("isClosed(1)", x.isClosed(1));
        Check.isTrue("isHome()", x.isHome());
    }

    @Sentence(promises = {14, 23}, says = "A draft or digits are dropped.")
    static void goingHomeDropsTheDraftAndTheDigits() {
        KnobMenu x = withTimes(60, 5);
        x.turn(1);
        x.press();
        x.turn(1);
        passes(x, 5, 1);
        Check.equal("mode() after an edit", x.mode(), 0);
        Check.equal("draft() after an edit", x.draft(), 0);
        Check.equal("logged() after an edit", x.logged(), 0);
        x.lock(2, 1000);
        x.turn(1);
        x.press();
        x.turn(1);
        x.press();
        passes(x, 5, 1);
        Check.equal("mode() after asking", x.mode(), 0);
        x.turn(1);
        Check.equal("the digits and the place are gone", Check.enter(x, 1000), 7);
        Check.equal("value(2)", x.value(2), 0);
    }

    @Sentence(promises = {14, 29}, says = "This is a timeout, too (so there can be two in one tick).")
    static void twoTimeoutsInOneTick() {
        int[] times = {1, 7, 60};
        for (int time : times) {
            KnobMenu x = withTimes(time, time);
            x.turn(1);
            x.press();
            if (time > 1) {
                passes(x, time - 1, 0);
            }
            passes(x, 1, 2);
            Check.isTrue("isHome()", x.isHome());
        }
    }

    @Sentence(promises = {14}, says = "At each tick, the following happens in this order:")
    static void theOrderInATick() {
        KnobMenu x = withTimes(7, 7);
        x.press();
        passes(x, 6, 0);
        passes(x, 1, 1);
        Check.isTrue("isHome() by the drop alone", x.isHome());
        KnobMenu y = withTimes(7, 6);
        y.turn(1);
        y.press();
        passes(y, 5, 0);
        passes(y, 1, 1);
        Check.isTrue("isHome() out of the edit", y.isHome());
        passes(y, 1, 0);
        KnobMenu z = withTimes(6, 7);
        z.turn(1);
        z.press();
        passes(z, 6, 1);
        Check.equal("cursor() after the drop", z.cursor(), 1);
        passes(z, 1, 1);
        Check.isTrue("isHome()", z.isHome());
    }

    @Sentence(promises = {14, 15}, says = "If the idle time equals the setting 0")
    static void aSettingThatIsPassed() {
        KnobMenu x = withTimes(60, 99);
        x.turn(1);
        x.press();
        x.tick(5);
        x.set(0, 5);
        x.set(1, 5);
        passes(x, 99, 0);
        Check.equal("mode()", x.mode(), 1);
        Check.equal("ticksToHome()", x.ticksToHome(), KnobMenu.NONE);
        x.turn(0);
        passes(x, 4, 0);
        passes(x, 1, 2);
    }

    @Sentence(promises = {14, 15}, says = "The idle time increases by 1.")
    static void aSettingThatComesNext() {
        KnobMenu x = withTimes(60, 99);
        x.turn(1);
        x.press();
        x.tick(5);
        x.set(0, 6);
        passes(x, 1, 1);
        Check.equal("mode()", x.mode(), 0);
        x.set(1, 7);
        passes(x, 1, 1);
        Check.isTrue("isHome()", x.isHome());
        Check.equal("idle()", x.idle(), 7);
    }

    @Sentence(promises = {14}, says = "`ticks`: 1 to 99")
    static void rangeOfTicks() {
        for (Scene scene : Scene.values()) {
            KnobMenu x = scene.get();
            int idle = x.idle();
            x.tick(1);
            Check.equal("idle() after tick(1)", x.idle(), idle + 1);
            x.tick(99);
            Check.equal("idle() after tick(99)", x.idle(), idle + 100);
            Check.isTrue("isHome()", x.isHome());
        }
        int[] bad = {0, -1, 100, Integer.MIN_VALUE, Integer.MAX_VALUE};
        for (int ticks : bad) {
            Refused.badArgumentEver("tick(" + ticks + ")", x -> x.tick(ticks));
        }
    }

    @Sentence(promises = {14}, says = "Lets ticks pass.")
    static void manyTicksAreSingleTicks() {
        int[] ticks = {1, 2, 28, 99};
        for (Scene scene : Scene.values()) {
            for (int many : ticks) {
                KnobMenu x = scene.get();
                int timeouts = 0;
                for (int i = 0; i < many; i++) {
                    timeouts += x.tick(1);
                }
                KnobMenu y = scene.get();
                Check.equal("tick(" + many + ")", y.tick(many), timeouts);
                Check.equal("digest()", y.digest(), x.digest());
            }
        }
    }

    @Sentence(promises = {15},
        says = "Setting 0 is 1 to 60 ticks, at first 10. Setting 1 is 1 to 99 ticks, at first 30. Setting 2 is 0 or 1, at"
            + " first 0.")
    static void rangesOfSettings() {
        int[] first = {10, 30, 0};
        int[] least = {1, 1, 0};
        int[] most = {60, 99, 1};
        for (int i = 0; i < 3; i++) {
            int setting = i;
            KnobMenu x = two();
            Check.equal("the least", x.set(setting, least[i]), first[i]);
            Check.equal("the most", x.set(setting, most[i]), least[i]);
            Check.equal("the same", x.set(setting, most[i]), most[i]);
            Check.equal("one less", x.set(setting, most[i] - 1), most[i]);
            Check.equal("and back", x.set(setting, first[i]), most[i] - 1);
            int[] bad = {least[i] - 1, most[i] + 1, Integer.MIN_VALUE, Integer.MAX_VALUE};
            for (int value : bad) {
                Refused.badArgumentEver("set(" + i + ", " + value + ")", y -> y.set(setting, value));
            }
        }
    }

    @Sentence(promises = {15}, says = "Throws `IndexOutOfBoundsException` if there is no such setting")
    static void noSuchSetting() {
        int[] bad = {-1, 3, Integer.MIN_VALUE, Integer.MAX_VALUE};
        for (int setting : bad) {
            Refused.noSuchEver("set(" + setting + ", 1)", x -> x.set(setting, 1));
            Refused.noSuchEver("set(" + setting + ", 100)", x -> x.set(setting, 100));
            Refused.noSuchEver("set(" + setting + ", -1)", x -> x.set(setting, -1));
        }
    }

    @Sentence(promises = {15}, says = "Returns the previous value.")
    static void settingsAreApart() {
        KnobMenu x = two();
        x.set(0, 60);
        x.set(1, 99);
        x.set(2, 1);
        Check.equal("setting 0", x.set(0, 1), 60);
        Check.equal("setting 1", x.set(1, 1), 99);
        Check.equal("setting 2", x.set(2, 0), 1);
        Check.equal("setting 0 again", x.set(0, 2), 1);
        Check.equal("setting 1 again", x.set(1, 2), 1);
        Check.equal("setting 2 again", x.set(2, 1), 0);
    }

    /** The forecast is compared with what happens when the ticks pass one by one. */
    private static void homeIn(String what, KnobMenu x, int due) {
        Check.equal("ticksToHome() " + what, x.ticksToHome(), due);
        int ticks = 0;
        while (!x.isHome() && ticks < 100) {
            x.tick(1);
            ticks++;
        }
        Check.equal("ticks until it is at home, " + what, x.isHome() ? ticks : KnobMenu.NONE, due);
    }

    private static KnobMenu editing(int cursor, int drop, int home, int idle) {
        KnobMenu x = two();
        x.turn(cursor);
        x.press();
        if (idle > 0) {
            x.tick(idle);
        }
        x.set(0, drop);
        x.set(1, home);
        return x;
    }

    @Sentence(promises = {34}, says = "0 if the device is at home now")
    static void homeNow() {
        KnobMenu x = two();
        homeIn("at first", x, 0);
        x.tick(99);
        homeIn("after the time of setting 1", x, 0);
        x.set(1, 50);
        homeIn("when setting 1 is passed", x, 0);
    }

    @Sentence(promises = {34}, says = "Returns the least number of ticks after which it is at home, by any timeout")
    static void homeByTheLeastTimeout() {
        homeIn("by setting 0", editing(0, 6, 7, 0), 6);
        homeIn("by both", editing(0, 7, 7, 0), 7);
        homeIn("by setting 1", editing(0, 8, 7, 0), 7);
        homeIn("by setting 1 at another cursor", editing(1, 6, 7, 0), 7);
        homeIn("by setting 0 in the next tick", editing(0, 6, 50, 5), 1);
        homeIn("by setting 1 in the next tick", editing(0, 50, 6, 5), 1);
        homeIn("by setting 0 in the next tick, the other one is passed", editing(0, 6, 4, 5), 1);
        homeIn("by setting 1 in the next tick, the other one is passed", editing(0, 4, 6, 5), 1);
        homeIn("by setting 1 in the next tick at another cursor", editing(1, 60, 6, 5), 1);
        homeIn("by setting 0 at its longest", editing(0, 60, 99, 0), 60);
        homeIn("by setting 1 at its longest", editing(1, 60, 99, 0), 99);
        homeIn("by setting 0 at its shortest", editing(0, 1, 99, 0), 1);
        homeIn("by setting 1 at its shortest", editing(0, 60, 1, 0), 1);
    }

    @Sentence(promises = {34}, says = "NONE if it never is")
    static void neverHome() {
        homeIn("both are reached", editing(0, 5, 5, 5), KnobMenu.NONE);
        homeIn("both are passed", editing(0, 4, 1, 5), KnobMenu.NONE);
        homeIn("setting 1 is reached, and setting 0 does not lead home", editing(1, 6, 5, 5), KnobMenu.NONE);
        homeIn("setting 1 is reached", editing(0, 9, 5, 5), 4);
        homeIn("setting 1 is passed", editing(0, 9, 4, 5), 4);
        homeIn("setting 0 is reached", editing(0, 5, 8, 5), 3);
        homeIn("setting 0 is passed", editing(0, 4, 8, 5), 3);
        KnobMenu x = two();
        x.turn(1);
        x.tick(9);
        x.set(1, 9);
        homeIn("browsing at another cursor", x, KnobMenu.NONE);
        x.set(1, 99);
        x.turn(0);
        homeIn("after a turn", x, 99);
    }

    @Sentence(promises = {34}, says = "Predicts after how many ticks the device is at home, if the knob is not used.")
    static void homeFromEveryScene() {
        int[] due = {0, 38, 38, 38, 38, 38, 38, 38, 38, 0};
        for (Scene scene : Scene.values()) {
            homeIn("from " + scene, scene.get(), due[scene.ordinal()]);
        }
        KnobMenu x = two();
        x.lock(1, 0);
        x.press();
        homeIn("asking at the first entry", x, 10);
        Check.equal("the code", Check.enter(x, 0), 7);
        x.press();
        homeIn("editing an open item at the first entry", x, 30);
        KnobMenu y = new KnobMenu();
        y.addMenu(0);
        y.addChoice(1, 2);
        y.press();
        y.press();
        homeIn("editing at the first entry of another menu", y, 30);
    }
}
