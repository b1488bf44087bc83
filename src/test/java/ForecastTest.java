/** Promises 30 to 35: forecasts. */
public final class ForecastTest {
    public static void main(String[] args) {
        ifTurned();
        pressesTo();
        detentsTo();
        codesTo();
        ticksToHome();
        ticksToHomeByEdit();
        fraction();
        Check.end("ForecastTest");
    }

    private static KnobMenu deep() {
        KnobMenu x = new KnobMenu();
        x.addChoice(0, 9);
        x.addNumber(0, -10, 10, 2);
        x.addMenu(0);
        x.addMenu(3);
        x.addMenu(4);
        x.addChoice(3, 2);
        x.addMenu(3);
        x.addChoice(5, 2);
        x.addNumber(5, 0, 1, 1);
        x.addNumber(5, 0, 4, 1);
        return x;
    }

    private static void ifTurned() {
        KnobMenu x = deep();
        x.tick(3);
        long before = x.digest();
        Check.equal("ifTurned(1)", x.ifTurned(1), 1);
        Check.equal("ifTurned(50)", x.ifTurned(50), 2);
        Check.equal("ifTurned(-1)", x.ifTurned(-1), 0);
        Check.equal("nothing changed", x.digest(), before);
        Check.equal("ifTurned(0)", x.ifTurned(0), 0);
        x.set(2, 1);
        Check.equal("ifTurned(-1) around", x.ifTurned(-1), 2);
        Check.equal("ifTurned(50) around", x.ifTurned(50), 2);
        x.press();
        Check.equal("ifTurned(-1) of a choice", x.ifTurned(-1), 8);
        x.hold();
        x.turn(1);
        x.press();
        Check.equal("ifTurned(4) of a number", x.ifTurned(4), -2);
        Check.equal("ifTurned(5) of a number", x.ifTurned(5), 10);
        Check.equal("draft() stays", x.draft(), -10);
        x.hold();
        x.hold();
        x.lock(1, 7);
        x.press();
        Check.equal("ifTurned(-2) of a digit", x.ifTurned(-2), 8);
        Check.equal("turn(0)", x.turn(0), 0);
        int[] bad = {51, -51, Integer.MIN_VALUE, Integer.MAX_VALUE};
        for (int detents : bad) {
            Check.badArgument(x, "ifTurned(" + detents + ")", () -> x.ifTurned(detents));
        }
        Check.equal("ifTurned without an entry", new KnobMenu().ifTurned(5), 0);
    }

    private static void pressesTo() {
        KnobMenu x = deep();
        int[] levels = {0, 1, 1, 1, 2, 3, 2, 2, 4, 4, 4};
        for (int i = 0; i < levels.length; i++) {
            Check.equal("pressesTo(" + i + ")", x.pressesTo(i), levels[i]);
        }
        Check.noSuch(x, "pressesTo(-1)", () -> x.pressesTo(-1));
        Check.noSuch(x, "pressesTo(11)", () -> x.pressesTo(11));
    }

    private static void detentsTo() {
        KnobMenu x = deep();
        int[] stopping = {0, 0, 1, 2, 2, 2, 3, 4, 2, 3, 4};
        for (int i = 0; i < stopping.length; i++) {
            Check.equal("detentsTo(" + i + ")", x.detentsTo(i), stopping[i]);
        }
        x.set(2, 1);
        int[] around = {0, 0, 1, 1, 1, 1, 2, 3, 1, 2, 3};
        for (int i = 0; i < around.length; i++) {
            Check.equal("detentsTo(" + i + ") around", x.detentsTo(i), around[i]);
        }
        x.turn(1);
        Check.equal("detentsTo(1) from home", x.detentsTo(1), 0);
        Check.noSuch(x, "detentsTo(-1)", () -> x.detentsTo(-1));
        Check.noSuch(x, "detentsTo(11)", () -> x.detentsTo(11));
        KnobMenu y = new KnobMenu();
        y.set(2, 1);
        for (int i = 0; i < 8; i++) {
            y.addMenu(0);
        }
        for (int i = 0; i < 8; i++) {
            y.addChoice(1, 2);
            Check.equal("detentsTo in the root", y.detentsTo(i + 1), Math.min(i, 8 - i));
        }
        for (int i = 0; i < 8; i++) {
            Check.equal("detentsTo in a menu with back", y.detentsTo(i + 9), Math.min(i, 9 - i));
        }
    }

    private static void codesTo() {
        KnobMenu x = deep();
        Check.equal("codesTo(8) without locks", x.codesTo(8), 0);
        x.lock(3, 0);
        x.lock(5, 1);
        x.lock(8, 2);
        x.lock(1, 3);
        Check.equal("codesTo(0)", x.codesTo(0), 0);
        Check.equal("codesTo(1)", x.codesTo(1), 1);
        Check.equal("codesTo(2)", x.codesTo(2), 0);
        Check.equal("codesTo(4)", x.codesTo(4), 1);
        Check.equal("codesTo(8)", x.codesTo(8), 3);
        Check.equal("codesTo(9)", x.codesTo(9), 2);
        x.turn(2);
        Check.equal("right", Check.enter(x, 0), 7);
        Check.equal("codesTo(8) with an open menu", x.codesTo(8), 2);
        Check.noSuch(x, "codesTo(-1)", () -> x.codesTo(-1));
        Check.noSuch(x, "codesTo(11)", () -> x.codesTo(11));
    }

    private static void ticksToHome() {
        KnobMenu x = deep();
        Check.equal("at home", x.ticksToHome(), 0);
        x.tick(50);
        Check.equal("at home, after a while", x.ticksToHome(), 0);
        x.turn(1);
        Check.equal("at another cursor", x.ticksToHome(), 30);
        x.tick(29);
        Check.equal("after 29 ticks", x.ticksToHome(), 1);
        x.set(1, 29);
        Check.equal("setting 1 is passed", x.ticksToHome(), KnobMenu.NONE);
        x.set(1, 99);
        Check.equal("setting 1 is longer", x.ticksToHome(), 70);
        x.press();
        Check.equal("editing at another cursor", x.ticksToHome(), 99);
        x.tick(20);
        Check.equal("after the edit's timeout", x.ticksToHome(), 79);
    }

    private static void ticksToHomeByEdit() {
        KnobMenu x = deep();
        x.lock(1, 0);
        x.press();
        Check.equal("asking at the first entry", x.ticksToHome(), 10);
        x.set(1, 4);
        Check.equal("setting 1 is earlier", x.ticksToHome(), 4);
        x.tick(3);
        x.set(1, 3);
        Check.equal("setting 1 is reached already", x.ticksToHome(), 7);
        x.set(1, 2);
        Check.equal("setting 1 is passed", x.ticksToHome(), 7);
        x.set(0, 3);
        Check.equal("both are passed", x.ticksToHome(), KnobMenu.NONE);
        x.set(1, 9);
        Check.equal("setting 0 is passed", x.ticksToHome(), 6);
        x.set(0, 10);
        for (int i = 0; i < 3; i++) {
            x.press();
        }
        Check.equal("right", x.press(), 7);
        Check.equal("press", x.press(), 3);
        x.set(1, 60);
        Check.equal("editing an open item", x.ticksToHome(), 60);
        Check.isTrue("it is not at home before", x.tick(59) == 1 && !x.isHome());
        x.tick(1);
        Check.isTrue("isHome()", x.isHome());
    }

    private static void fraction() {
        KnobMenu x = new KnobMenu();
        x.addChoice(0, 3);
        x.addMenu(0);
        x.press();
        x.turn(2);
        x.press();
        Check.equal("without numbers", x.fraction(), 0.0);
        x.addNumber(0, -10, 20, 1);
        x.addNumber(2, 5, 8, 1);
        Check.equal("at the low limits", x.fraction(), 0.0);
        x.turn(2);
        x.press();
        x.turn(4);
        Check.equal("a draft does not count", x.fraction(), 0.0);
        x.press();
        Check.equal("one turned up", x.fraction(), 4.0 / 33.0);
        x.turn(-1);
        x.press();
        x.press();
        x.turn(50);
        x.press();
        Check.equal("two turned up", x.fraction(), 7.0 / 33.0);
        x.hold();
        x.turn(2);
        x.press();
        x.turn(50);
        x.press();
        Check.equal("all turned up", x.fraction(), 1.0);
    }
}
