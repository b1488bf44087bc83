import java.util.function.Supplier;

/** Objects in all the states in which a call can find the device; each asks for a new one. */
enum Scene implements Supplier<KnobMenu> {
    HOME, BESIDE, INSIDE, ON_BACK, EDITING_NUMBER, EDITING_CHOICE, ASKING, OPENED, BARRED, FULL;

    static final int MENU = 1;
    static final int NUMBER = 2;
    static final int CHOICE = 3;

    @Override
    public KnobMenu get() {
        KnobMenu x = items();
        if (this == FULL) {
            fill(x);
        }
        history(x);
        move(x);
        return x;
    }

    boolean isAtHome() {
        return this == HOME || this == FULL;
    }

    private static KnobMenu items() {
        KnobMenu x = new KnobMenu();
        x.addMenu(0);
        x.addNumber(0, -10, 30, 3);
        x.addChoice(0, 4);
        x.addNumber(MENU, 0, 9, 1);
        x.addMenu(MENU);
        x.addChoice(5, 3);
        x.lock(4, 907);
        x.lock(6, 0);
        return x;
    }

    /** Fills the root, menu 1 and, with the last of 24 items, menu 5. */
    private static void fill(KnobMenu x) {
        for (int i = 0; i < 5; i++) {
            x.addMenu(0);
        }
        for (int i = 0; i < 6; i++) {
            x.addNumber(MENU, -i, i + 1, 1);
        }
        for (int i = 0; i < 6; i++) {
            x.addChoice(5, 2);
        }
    }

    /** Gives the log, a preset, the settings and the buffer something that a call could spoil. */
    private static void history(KnobMenu x) {
        x.set(0, 12);
        x.set(1, 40);
        x.turn(1);
        Check.edit(x, 2);
        Check.edit(x, 7);
        x.savePreset(1);
        Check.edit(x, -1);
        x.turn(1);
        Check.edit(x, 1);
        x.hold();
        Check.type(x, "r1,p,t5");
        x.tick(7);
    }

    private void move(KnobMenu x) {
        switch (this) {
            case BESIDE -> x.turn(1);
            case INSIDE -> inside(x, 1);
            case ON_BACK -> inside(x, 2);
            case EDITING_NUMBER -> editing(x, 1);
            case EDITING_CHOICE -> editing(x, 2);
            case ASKING -> asking(x);
            case OPENED -> opened(x);
            case BARRED -> barred(x);
            default -> { }
        }
        x.tick(2);
    }

    private static void inside(KnobMenu x, int cursor) {
        x.press();
        x.turn(cursor);
    }

    private static void editing(KnobMenu x, int cursor) {
        x.turn(cursor);
        x.press();
        x.turn(-2);
    }

    private static void asking(KnobMenu x) {
        x.press();
        Check.enter(x, 1);
        x.press();
        x.turn(1);
        x.press();
        x.turn(2);
        x.press();
        x.turn(-4);
    }

    /** Back at the root's first entry with an item that is open, so that only this keeps it from being at home. */
    private static void opened(KnobMenu x) {
        x.press();
        Check.enter(x, 907);
        x.turn(2);
        x.press();
    }

    private static void barred(KnobMenu x) {
        x.press();
        for (int i = 0; i < 3; i++) {
            Check.enter(x, 1);
        }
    }
}
