/** Promises 36 to 40: action text and the digest. */
public final class ActionTextTest {
    public static void main(String[] args) {
        append();
        clearText();
        firstError();
        firstErrorOfEverySign();
        run();
        runLikeCalls();
        runRefused();
        digestOfNewObject();
        digestTellsTheState();
        Check.end("ActionTextTest");
    }

    private static KnobMenu some() {
        KnobMenu x = new KnobMenu();
        x.addNumber(0, 0, 100, 1);
        x.addMenu(0);
        x.addChoice(2, 4);
        return x;
    }

    private static void append() {
        KnobMenu x = new KnobMenu();
        Check.equal("append(33)", x.append(33), 1);
        Check.equal("append(126)", x.append(126), 2);
        int[] bad = {32, 127, 0, -1, 65536 + 'p', Integer.MIN_VALUE, Integer.MAX_VALUE};
        for (int code : bad) {
            Check.badArgument(x, "append(" + code + ")", () -> x.append(code));
        }
        for (int i = 3; i <= 60; i++) {
            Check.equal("append('p')", x.append('p'), i);
        }
        Check.badState(x, "append to a full buffer", () -> x.append('p'));
        Check.badArgument(x, "append(32) to a full buffer", () -> x.append(32));
        Check.equal("clearText()", x.clearText(), 60);
    }

    private static void clearText() {
        KnobMenu x = new KnobMenu();
        Check.equal("clearText()", x.clearText(), 0);
        Check.type(x, "x,p");
        Check.equal("clearText()", x.clearText(), 3);
        Check.equal("clearText() again", x.clearText(), 0);
        Check.equal("firstError()", x.firstError(), 0);
        Check.equal("append", x.append('p'), 1);
        Check.equal("firstError()", x.firstError(), 1);
    }

    private static void error(String text, int due) {
        KnobMenu x = some();
        Check.type(x, text);
        long before = x.digest();
        Check.equal("firstError() of " + text, x.firstError(), due);
        Check.equal("firstError() of " + text + " again", x.firstError(), due);
        Check.equal("digest()", x.digest(), before);
        Check.equal("clearText()", x.clearText(), text.length());
    }

    private static void firstError() {
        String[] right = {"", "p", "h", "r", "l", "t", "p,", "r1", "r5", "r50", "l49", "l9", "t9", "t99", "t10",
            "r10,l20,p,h,t30", "p,p,p,", "r1,t"};
        for (String text : right) {
            error(text, text.length());
        }
        error("x", 0);
        error(",", 0);
        error("1", 0);
        error("P", 0);
        error("pp", 1);
        error("p1", 1);
        error("h0", 1);
        error("p,,", 2);
        error("p,x,p", 2);
        error("r,", 1);
        error("r0", 1);
        error("l01", 1);
        error("t0", 1);
        error("r-1", 1);
        error("rp", 1);
        error("r51", 2);
        error("l60", 2);
        error("r500", 3);
        error("r100", 3);
        error("t100", 3);
        error("t990", 3);
        error("r1p", 2);
        error("r1,p,t99,h,r12x", 14);
        error("p,p,p,p,p,p,p,p,p,p,p,p,p,p,p,p,p,p,p,p,p,p,p,p,p,p,p,p,p,pp", 59);
        error("p,p,p,p,p,p,p,p,p,p,p,p,p,p,p,p,p,p,p,p,p,p,p,p,p,p,p,p,p,p,", 60);
    }

    private static void firstErrorOfEverySign() {
        String[] before = {"", "p", "h", "r", "l", "t", "p,", "r1", "r4", "r5", "r6", "l9", "r10", "t1", "t9", "t42"};
        String[] allowed = {"rlpht", ",", ",", "123456789", "123456789", "123456789", "rlpht", "0123456789,",
            "0123456789,", "0,", ",", ",", ",", "0123456789,", "0123456789,", ","};
        for (int i = 0; i < before.length; i++) {
            for (int sign = 33; sign <= 126; sign++) {
                KnobMenu x = new KnobMenu();
                Check.type(x, before[i]);
                x.append(sign);
                int length = before[i].length();
                int due = allowed[i].indexOf(sign) >= 0 ? length + 1 : length;
                Check.equal("firstError() of " + before[i] + (char) sign, x.firstError(), due);
            }
        }
    }

    private static void run() {
        KnobMenu x = some();
        x.tick(2);
        Check.type(x, "p,r4,p");
        Check.equal("run()", x.run(), 7);
        Check.equal("value(1)", x.value(1), 4);
        Check.equal("clearText()", x.clearText(), 0);
        Check.equal("events(0)", x.events(0), 4);
        Check.equal("events(1)", x.events(1), 2);
        Check.equal("idle()", x.idle(), 0);
        Check.type(x, "r1,p,p,l1,p,t99,h");
        Check.equal("run()", x.run(), 9);
        Check.equal("events(0)", x.events(0), 6);
        Check.equal("events(6)", x.events(6), 1);
        Check.equal("events(7)", x.events(7), 101);
        Check.isTrue("isHome()", x.isHome());
        Check.equal("value(3)", x.value(3), 3);
        Check.type(x, "h");
        Check.equal("run() without a press", x.run(), 0);
    }

    private static void runLikeCalls() {
        KnobMenu x = some();
        KnobMenu y = some();
        Check.type(x, "r1,p,p,r3,p,t12,r50,p,l50,t9,p,l7,r13,h,t1,p,r20,p,h,t35");
        y.turn(1);
        int due = y.press() + y.press();
        y.turn(3);
        due += y.press();
        y.tick(12);
        y.turn(50);
        due += y.press();
        y.turn(-50);
        y.tick(9);
        due += y.press();
        y.turn(-7);
        y.turn(13);
        y.hold();
        y.tick(1);
        due += y.press();
        y.turn(20);
        due += y.press();
        y.hold();
        y.tick(35);
        Check.equal("run()", x.run(), due);
        Check.equal("digest()", x.digest(), y.digest());
        Check.isTrue("value(1) was changed", x.value(1) > 0 && x.value(3) > 0);
    }

    private static void runRefused() {
        String[] bad = {"", "r", "l", "t", "p,", "r1,", "p,r", "x", "pp", "r0", "r51", "t100", ",p", "p,,p", "p,h,x"};
        for (String text : bad) {
            KnobMenu x = some();
            x.tick(1);
            Check.type(x, text);
            Check.badArgument(x, "run() of " + text, () -> x.run());
            Check.equal("the buffer stays", x.clearText(), text.length());
        }
        KnobMenu x = some();
        Check.type(x, "r5");
        x.append(',');
        Check.badArgument(x, "run() of r5,", () -> x.run());
        x.append('p');
        Check.equal("run() when it is complete", x.run(), 2);
        Check.badArgument(x, "run() again", () -> x.run());
    }

    private static void digestOfNewObject() {
        long hash = 4364;
        int[] values = {1, 0, 0, 0, -1, 0, 0, 0, 0, 0, 0, -1, 0, 0, 0, 0, 0, 0, 0, 0, 0, 0};
        for (int value : values) {
            hash = 31 * hash + value;
        }
        String lines = Check.wide("MENU 0", "") + Check.wide("", "");
        for (int i = 0; i < lines.length(); i++) {
            hash = 31 * hash + lines.charAt(i);
        }
        hash = 31 * hash;
        Check.equal("digest()", new KnobMenu().digest(), hash);
    }

    private static void digestTellsTheState() {
        KnobMenu x = some();
        long before = x.digest();
        Check.equal("digest() twice", x.digest(), before);
        x.append('p');
        Check.equal("the buffer is no part of it", x.digest(), before);
        x.savePreset(0);
        Check.equal("a preset is no part of it", x.digest(), before);
        x.lock(1, 5);
        Check.isTrue("a lock is part of it", x.digest() != before);
        x.lock(1, -1);
        Check.equal("digest() as before", x.digest(), before);
        x.tick(1);
        Check.isTrue("ticks are part of it", x.digest() != before);
    }
}
