/** Promises 19 to 29: what the device tells of itself. */
public final class QueriesTest {
    public static void main(String[] args) {
        places();
        modesAndDrafts();
        idleAndBarred();
        isHome();
        displayBrowsing();
        displayEditing();
        displayCode();
        displayRefused();
        events();
        Check.end("QueriesTest");
    }

    private static KnobMenu full() {
        KnobMenu x = new KnobMenu();
        x.addMenu(0);
        x.addNumber(0, -999, 999, 100);
        x.addChoice(0, 9);
        x.addMenu(1);
        for (int i = 0; i < 7; i++) {
            x.addNumber(1, -i - 1, 5, 1);
        }
        x.addChoice(4, 3);
        return x;
    }

    private static void places() {
        KnobMenu x = full();
        Check.equal("chosen()", x.chosen(), 1);
        x.turn(2);
        Check.equal("cursor()", x.cursor(), 2);
        Check.equal("chosen()", x.chosen(), 3);
        x.press();
        Check.equal("shown() while it edits", x.shown(), 0);
        Check.equal("cursor() while it edits", x.cursor(), 2);
        Check.equal("chosen() while it edits", x.chosen(), 3);
        x.hold();
        x.turn(-2);
        x.press();
        Check.equal("shown()", x.shown(), 1);
        Check.equal("chosen()", x.chosen(), 4);
        x.turn(3);
        Check.equal("chosen()", x.chosen(), 7);
        x.turn(50);
        Check.equal("cursor()", x.cursor(), 8);
        Check.equal("chosen() of back", x.chosen(), KnobMenu.NONE);
        x.hold();
        x.lock(2, 5);
        x.turn(1);
        x.press();
        Check.equal("shown() while it asks", x.shown(), 0);
        Check.equal("chosen() while it asks", x.chosen(), 2);
    }

    private static void modesAndDrafts() {
        KnobMenu x = full();
        x.lock(3, 5);
        Check.equal("mode()", x.mode(), 0);
        Check.equal("draft()", x.draft(), 0);
        x.turn(1);
        x.press();
        Check.equal("mode()", x.mode(), 1);
        Check.equal("draft()", x.draft(), -999);
        x.turn(3);
        Check.equal("draft()", x.draft(), -699);
        x.hold();
        Check.equal("draft() after hold", x.draft(), 0);
        x.turn(1);
        x.press();
        x.turn(7);
        Check.equal("mode()", x.mode(), 2);
        Check.equal("draft() while it asks", x.draft(), 0);
        x.tick(10);
        Check.equal("mode() after a timeout", x.mode(), 0);
    }

    private static void idleAndBarred() {
        KnobMenu x = full();
        x.tick(99);
        x.tick(99);
        Check.equal("idle()", x.idle(), 198);
        x.turn(0);
        Check.equal("idle() after turn", x.idle(), 0);
        x.tick(1);
        x.press();
        Check.equal("idle() after press", x.idle(), 0);
        x.tick(1);
        x.hold();
        Check.equal("idle() after hold", x.idle(), 0);
        x.lock(1, 5);
        for (int i = 0; i < 3; i++) {
            Check.equal("barred()", x.barred(), 0);
            Check.equal("wrong", Check.enter(x, 6), 8);
        }
        Check.equal("barred()", x.barred(), 30);
        x.tick(1);
        Check.equal("barred()", x.barred(), 29);
        x.tick(29);
        Check.equal("barred()", x.barred(), 0);
    }

    private static void isHome() {
        KnobMenu x = full();
        x.lock(2, 0);
        Check.isTrue("at first", x.isHome());
        x.turn(1);
        Check.isFalse("at another cursor", x.isHome());
        Check.equal("right", Check.enter(x, 0), 7);
        x.turn(-1);
        Check.isFalse("with an open item", x.isHome());
        x.hold();
        Check.isTrue("after hold", x.isHome());
        x.press();
        Check.equal("cursor()", x.cursor(), 0);
        Check.isFalse("in another menu", x.isHome());
        x.hold();
        KnobMenu y = new KnobMenu();
        y.addNumber(0, 0, 1, 1);
        y.press();
        Check.isFalse("editing", y.isHome());
        y.press();
        Check.isTrue("after the edit", y.isHome());
        y.lock(1, 3);
        y.press();
        Check.isFalse("asking", y.isHome());
        y.hold();
        Check.isTrue("after asking", y.isHome());
    }

    private static void displays(KnobMenu x, String line0, String line1) {
        Check.equal("line 0", Check.line(x, 0), line0);
        Check.equal("line 1", Check.line(x, 1), line1);
    }

    private static void displayBrowsing() {
        KnobMenu x = full();
        x.lock(3, 0);
        displays(x, Check.wide("MENU 0", ""), Check.wide("MENU 1", ">"));
        x.turn(1);
        displays(x, Check.wide("MENU 0", ""), Check.wide("NUMBER 2", "-999"));
        x.press();
        x.turn(50);
        x.press();
        displays(x, Check.wide("MENU 0", ""), Check.wide("NUMBER 2", "999"));
        x.turn(1);
        displays(x, Check.wide("MENU 0", ""), Check.wide("CHOICE 3", "L"));
        Check.enter(x, 0);
        displays(x, Check.wide("MENU 0", ""), Check.wide("CHOICE 3", "0"));
        x.hold();
        x.lock(1, 0);
        x.lock(11, 9);
        displays(x, Check.wide("MENU 0", ""), Check.wide("MENU 1", "L"));
        Check.enter(x, 0);
        displays(x, Check.wide("MENU 0", ""), Check.wide("MENU 1", ">"));
        x.press();
        x.turn(6);
        displays(x, Check.wide("MENU 1", ""), Check.wide("NUMBER 10", "-6"));
        x.turn(1);
        displays(x, Check.wide("MENU 1", ""), Check.wide("NUMBER 11", "L"));
        x.turn(1);
        displays(x, Check.wide("MENU 1", ""), Check.wide("BACK", ""));
        x.turn(-50);
        x.press();
        displays(x, Check.wide("MENU 4", ""), Check.wide("CHOICE 12", "0"));
    }

    private static void displayEditing() {
        KnobMenu x = full();
        x.turn(1);
        x.press();
        displays(x, Check.wide("EDIT 2", ""), Check.wide("", "-999"));
        x.turn(50);
        displays(x, Check.wide("EDIT 2", ""), Check.wide("", "999"));
        x.turn(-4);
        x.turn(-4);
        x.turn(-2);
        displays(x, Check.wide("EDIT 2", ""), Check.wide("", "-1"));
        x.turn(1);
        displays(x, Check.wide("EDIT 2", ""), Check.wide("", "99"));
        x.hold();
        x.hold();
        x.press();
        x.turn(6);
        x.press();
        displays(x, Check.wide("EDIT 10", ""), Check.wide("", "-6"));
        x.turn(3);
        x.turn(3);
        displays(x, Check.wide("EDIT 10", ""), Check.wide("", "0"));
    }

    private static void displayCode() {
        KnobMenu x = full();
        x.lock(3, 1234);
        x.lock(10, 1234);
        x.turn(2);
        x.press();
        displays(x, Check.wide("CODE 3", ""), Check.wide("0---", ""));
        x.turn(-1);
        displays(x, Check.wide("CODE 3", ""), Check.wide("9---", ""));
        x.press();
        displays(x, Check.wide("CODE 3", ""), Check.wide("*0--", ""));
        x.press();
        x.turn(5);
        displays(x, Check.wide("CODE 3", ""), Check.wide("**5-", ""));
        x.press();
        displays(x, Check.wide("CODE 3", ""), Check.wide("***0", ""));
        x.hold();
        x.hold();
        x.press();
        x.turn(6);
        x.press();
        displays(x, Check.wide("CODE 10", ""), Check.wide("0---", ""));
    }

    private static void displayRefused() {
        KnobMenu x = full();
        int[][] bad = {{-1, 0}, {2, 0}, {0, -1}, {0, 16}, {1, 16}, {1, -1}, {2, 16},
            {Integer.MAX_VALUE, Integer.MAX_VALUE}, {Integer.MIN_VALUE, Integer.MIN_VALUE}};
        for (int[] at : bad) {
            Check.noSuch(x, "display(" + at[0] + ", " + at[1] + ")", () -> x.display(at[0], at[1]));
        }
        Check.equal("display(0, 0)", x.display(0, 0), 'M');
        Check.equal("display(1, 15)", x.display(1, 15), '>');
    }

    private static void events() {
        KnobMenu x = full();
        x.lock(3, 1);
        x.turn(-3);
        x.turn(1);
        x.turn(0);
        Check.equal("events(0)", x.events(0), 4);
        x.press();
        x.turn(50);
        x.press();
        Check.equal("events(0)", x.events(0), 54);
        Check.equal("events(1)", x.events(1), 2);
        Check.equal("events(2)", x.events(2), 1);
        x.takeBack();
        Check.equal("events(2) after takeBack", x.events(2), 1);
        Check.equal("events(3)", x.events(3), 1);
        x.turn(1);
        for (int i = 1; i <= 3; i++) {
            Check.enter(x, 0);
            Check.equal("events(4)", x.events(4), i);
        }
        Check.equal("events(5)", x.events(5), 1);
        x.tick(30);
        Check.equal("events(6)", x.events(6), 1);
        Check.equal("events(7)", x.events(7), 30);
        int[] bad = {-1, 8, Integer.MIN_VALUE, Integer.MAX_VALUE};
        for (int event : bad) {
            Check.noSuch(x, "events(" + event + ")", () -> x.events(event));
        }
    }
}
