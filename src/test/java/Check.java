import java.lang.reflect.InvocationTargetException;
import java.lang.reflect.Method;
import java.util.ArrayList;
import java.util.Arrays;
import java.util.Comparator;
import java.util.List;

/** Counts and prints the answers of a test that are not as due, and offers short ways to say the calls. */
final class Check {
    private static int wrong = 0;
    private static int checked = 0;
    private static String where = "";

    private Check() {
    }

    /** Runs every test of a class that names its sentence, so that none can be forgotten. */
    static void sentences(Class<?> test) throws IllegalAccessException {
        Method[] methods = test.getDeclaredMethods();
        Arrays.sort(methods, Comparator.comparing(Method::getName));
        for (Method method : methods) {
            Sentence sentence = method.getAnnotation(Sentence.class);
            if (sentence != null) {
                sentence(method, sentence);
            }
        }
        where = "";
        end(test.getName());
    }

    private static void sentence(Method method, Sentence sentence) throws IllegalAccessException {
        where = method.getName() + ", promise " + Arrays.toString(sentence.promises()) + ", \"" + sentence.says()
            + "\": ";
        int before = checked;
        try {
            method.setAccessible(true);
            method.invoke(null);
        } catch (InvocationTargetException e) {
            wrong("a call that is allowed threw " + e.getCause());
        }
        if (checked == before) {
            wrong("nothing was checked");
        }
    }

    private static void wrong(String told) {
        wrong++;
        System.out.println(where + told);
    }

    static void equal(String what, long got, long due) {
        checked++;
        if (got != due) {
            wrong(what + " answered " + got + ", due is " + due);
        }
    }

    static void equal(String what, double got, double due) {
        checked++;
        if (Double.compare(got, due) != 0) {
            wrong(what + " answered " + got + ", due is " + due);
        }
    }

    static void equal(String what, String got, String due) {
        checked++;
        if (!got.equals(due)) {
            wrong(what + " answered '" + got + "', due is '" + due + "'");
        }
    }

    static void isTrue(String what, boolean got) {
        equal(what, got ? 1 : 0, 1);
    }

    static void isFalse(String what, boolean got) {
        equal(what, got ? 1 : 0, 0);
    }

    /** The call must throw exactly this exception and change nothing. */
    static void refused(KnobMenu x, String what, Class<? extends RuntimeException> due, Runnable call) {
        checked++;
        long before = x.digest();
        int error = x.firstError();
        String got = "nothing";
        try {
            call.run();
        } catch (RuntimeException e) {
            got = e.getClass().getName();
        }
        if (!got.equals(due.getName())) {
            wrong(what + " threw " + got + ", due is " + due.getName());
        }
        equal(what + " leaves the state", x.digest(), before);
        equal(what + " leaves the buffer", x.firstError(), error);
    }

    static void noSuch(KnobMenu x, String what, Runnable call) {
        refused(x, what, IndexOutOfBoundsException.class, call);
    }

    static void badArgument(KnobMenu x, String what, Runnable call) {
        refused(x, what, IllegalArgumentException.class, call);
    }

    static void badState(KnobMenu x, String what, Runnable call) {
        refused(x, what, IllegalStateException.class, call);
    }

    static String line(KnobMenu x, int line) {
        StringBuilder signs = new StringBuilder();
        for (int column = 0; column < 16; column++) {
            signs.append((char) x.display(line, column));
        }
        return signs.toString();
    }

    /** A line of the display, with blanks between its left and its right part. */
    static String wide(String left, String right) {
        StringBuilder signs = new StringBuilder(left);
        while (signs.length() + right.length() < 16) {
            signs.append(' ');
        }
        return signs.append(right).toString();
    }

    static void type(KnobMenu x, String text) {
        for (int i = 0; i < text.length(); i++) {
            x.append(text.charAt(i));
        }
    }

    /** Enters a code, from the press on the closed item to the last press, whose result it returns. */
    static int enter(KnobMenu x, int code) {
        equal("press on a closed item", x.press(), 5);
        int[] digits = {code / 1000, code / 100 % 10, code / 10 % 10, code % 10};
        int result = 0;
        for (int digit : digits) {
            x.turn(digit);
            result = x.press();
        }
        return result;
    }

    /** An edit of the chosen item, from the press that begins it to the press that ends it. */
    static void edit(KnobMenu x, int detents) {
        equal("press on a number or choice", x.press(), 3);
        x.turn(detents);
        equal("press while editing", x.press(), 4);
    }

    /** The digest as its promise lists it, from what the other calls return. */
    static long digestOf(KnobMenu x) {
        List<Integer> values = new ArrayList<>(List.of(x.items(), x.mode(), x.shown(), x.cursor(), x.chosen()));
        values.addAll(List.of(x.draft(), x.idle(), x.barred(), x.logged(), x.ticksToHome()));
        for (int i = 0; i < x.items(); i++) {
            values.addAll(List.of(x.kind(i), x.menuOf(i), x.isClosed(i) ? 1 : 0, x.kind(i) == 0 ? 0 : x.value(i)));
        }
        for (int event = 0; event < 8; event++) {
            values.add(x.events(event));
        }
        for (int i = 0; i < 32; i++) {
            values.add(x.display(i / 16, i % 16));
        }
        values.add(Float.floatToIntBits((float) x.fraction()));
        long hash = 4364;
        for (int value : values) {
            hash = 31 * hash + value;
        }
        return hash;
    }

    static void end(String test) {
        System.out.println(test + ": " + checked + " checks, " + wrong + " wrong");
        if (wrong != 0) {
            System.exit(1);
        }
    }
}
