/** Counts and prints the answers of a test that are not as due, and offers short ways to say the calls. */
final class Check {
    private static int wrong = 0;
    private static int checked = 0;

    private Check() {
    }

    static void equal(String what, long got, long due) {
        checked++;
        if (got != due) {
            wrong++;
            System.out.println(what + " answered " + got + ", due is " + due);
        }
    }

    static void equal(String what, double got, double due) {
        checked++;
        if (Double.compare(got, due) != 0) {
            wrong++;
            System.out.println(what + " answered " + got + ", due is " + due);
        }
    }

    static void equal(String what, String got, String due) {
        checked++;
        if (!got.equals(due)) {
            wrong++;
            System.out.println(what + " answered '" + got + "', due is '" + due + "'");
        }
    }

    static void isTrue(String what, boolean got) {
        equal(what, got ? 1 : 0, 1);
    }

    static void isFalse(String what, boolean got) {
        equal(what, got ? 1 : 0, 0);
    }

    /** The call must throw exactly this exception and change nothing. */
    static void refused(KnobMenu x, String what, Class<? extends RuntimeException> due, Runnable call) {
        checked++;
        long before = x.digest();
        int error = x.firstError();
        String got = "nothing";
        try {
            call.run();
        } catch (RuntimeException e) {
            got = e.getClass().getName();
        }
        if (!got.equals(due.getName())) {
            wrong++;
            System.out.println(what + " threw " + got + ", due is " + due.getName());
        }
        equal(what + " leaves the state", x.digest(), before);
        equal(what + " leaves the buffer", x.firstError(), error);
    }

    static void noSuch(KnobMenu x, String what, Runnable call) {
        refused(x, what, IndexOutOfBoundsException.class, call);
    }

    static void badArgument(KnobMenu x, String what, Runnable call) {
        refused(x, what, IllegalArgumentException.class, call);
    }

    static void badState(KnobMenu x, String what, Runnable call) {
        refused(x, what, IllegalStateException.class, call);
    }

    static String line(KnobMenu x, int line) {
        StringBuilder signs = new StringBuilder();
        for (int column = 0; column < 16; column++) {
            signs.append((char) x.display(line, column));
        }
        return signs.toString();
    }

    /** A line of the display, with blanks between its left and its right part. */
    static String wide(String left, String right) {
        StringBuilder signs = new StringBuilder(left);
        while (signs.length() + right.length() < 16) {
            signs.append(' ');
        }
        return signs.append(right).toString();
    }

    static void type(KnobMenu x, String text) {
        for (int i = 0; i < text.length(); i++) {
            x.append(text.charAt(i));
        }
    }

    /** Enters a code, from the press on the closed item to the last press, whose result it returns. */
    static int enter(KnobMenu x, int code) {
        equal("press on a closed item", x.press(), 5);
        int[] digits = {code / 1000, code / 100 % 10, code / 10 % 10, code % 10};
        int result = 0;
        for (int digit : digits) {
            x.turn(digit);
            result = x.press();
        }
        return result;
    }

    static void end(String test) {
        System.out.println(test + ": " + checked + " checks, " + wrong + " wrong");
        if (wrong != 0) {
            System.exit(1);
        }
    }
}
