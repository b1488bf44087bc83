import java.lang.reflect.InvocationTargetException;
import java.lang.reflect.Method;
import java.lang.reflect.Modifier;
import java.util.ArrayDeque;
import java.util.Arrays;
import java.util.Deque;
import java.util.List;
import java.util.Map;
import java.util.TreeMap;

/**
 * Promises 1 to 40 together: runs of 512 calls, the same ones of a KnobMenu and of the Model; every answer and every
 * exception must be the same. The calls come from a fixed row of numbers, so they are the same each time.
 */
public final class ModelTest {
    private static final int RUNS = 1500;
    private static final int CALLS = 512;
    private static final List<String> BUILDING = List.of(
        "addMenu addNumber addChoice lock lock kind menuOf isClosed pressesTo",
        "addMenu addMenu addNumber addNumber addChoice addChoice lock",
        "addMenu addNumber addChoice");
    private static final List<String> USING = List.of(
        "turn turn turn press press press press press hold tick tick set takeBack savePreset loadPreset",
        "turn turn turn turn press press press press press press press press tick savePreset takeBack",
        "turn turn press press press",
        "turn turn turn press press press press press press press press press press press hold tick");
    private static final String ASKING = "items kind menuOf value isClosed mode shown cursor chosen draft idle barred"
        + " logged isHome display events ifTurned pressesTo detentsTo codesTo ticksToHome fraction firstError digest";
    private static final String TYPING = "append append clearText run";
    private static final int[] CODES = {0, 0, 1, 10, 907, 1000, 9999};

    private static final Map<String, Method> MENU_CALLS = calls(KnobMenu.class);
    private static final Map<String, Method> MODEL_CALLS = calls(Model.class);

    private static long seed;

    private final String building = BUILDING.get(next(BUILDING.size()));
    private final String using = USING.get(next(USING.size()));
    private final boolean knowsCodes = next(2) == 0;
    private final int busy = 1 + next(5);
    private final int callsToBuild = 10 + next(100);
    private final KnobMenu menu = new KnobMenu();
    private final Model model = new Model();
    private final StringBuilder made = new StringBuilder();
    private final Deque<String> upcoming = new ArrayDeque<>();
    private final Deque<Integer> signs = new ArrayDeque<>();

    public static void main(String[] args) throws IllegalAccessException {
        for (int run = 1; run <= RUNS; run++) {
            seed = run;
            new ModelTest().compareRun();
        }
        Check.end("ModelTest");
    }

    private static Map<String, Method> calls(Class<?> face) {
        Map<String, Method> calls = new TreeMap<>();
        for (Method method : face.getDeclaredMethods()) {
            if (Modifier.isPublic(method.getModifiers())) {
                calls.put(method.getName(), method);
            }
        }
        return calls;
    }

    private static int next(int bound) {
        seed = seed * 6364136223846793005L + 1442695040888963407L;
        return (int) ((seed >>> 33) % bound);
    }

    private static String oneOf(String names) {
        String[] all = names.split(" ");
        return all[next(all.length)];
    }

    /** Ends with the first wrong answer, for all that follow it may be wrong, too. */
    private void compareRun() throws IllegalAccessException {
        boolean same = true;
        for (int call = 0; call < CALLS && same; call++) {
            String name = nextName(call);
            same = compare(name, arguments(name, MENU_CALLS.get(name).getParameterCount()));
        }
    }

    private String nextName(int call) {
        if (!upcoming.isEmpty()) {
            return upcoming.remove();
        }
        if (call < callsToBuild || model.isHome() && next(40) == 0) {
            return oneOf(building);
        }
        if (next(60) == 0) {
            typeActions();
        }
        if (knowsCodes && model.detentsToDigit() != 0 && next(20) != 0) {
            return "turn";
        }
        return oneOf(next(6) < busy ? using : next(8) == 0 ? TYPING : ASKING);
    }

    private boolean compare(String name, Object[] arguments) throws IllegalAccessException {
        String got = answer(MENU_CALLS.get(name), menu, arguments);
        String due = answer(MODEL_CALLS.get(name), model, arguments);
        made.append(' ').append(name).append(Arrays.toString(arguments)).append('=').append(got);
        Check.equal("the last of these calls:" + made, got, due);
        return got.equals(due);
    }

    private static String answer(Method call, Object object, Object[] arguments) throws IllegalAccessException {
        try {
            return String.valueOf(call.invoke(object, arguments));
        } catch (InvocationTargetException e) {
            return e.getCause().getClass().getName();
        }
    }

    // ---- arguments: mostly such that something happens, but also just outside of what is allowed

    private Object[] arguments(String name, int count) {
        int[] all = switch (name) {
            case "addMenu" -> new int[] {menuOrSo()};
            case "addNumber" -> limits();
            case "addChoice" -> new int[] {menuOrSo(), rarely() ? 1 + 9 * next(2) : 2 + next(8)};
            case "lock" -> new int[] {itemOrSo(), rarely() ? -2 + 10002 * next(2) : codeOrNone()};
            case "turn", "ifTurned" -> new int[] {detents()};
            case "tick" -> new int[] {rarely() ? 100 * next(2) : next(3) == 0 ? 1 + next(99) : 1 + next(9)};
            case "set" -> setting();
            case "savePreset", "loadPreset" -> new int[] {rarely() ? -1 + 3 * next(2) : next(2)};
            case "display" -> new int[] {rarely() ? -1 + 3 * next(2) : next(2), next(18) - 1};
            case "events" -> new int[] {next(10) - 1};
            case "append" -> new int[] {signs.isEmpty() ? 32 + next(96) : signs.remove()};
            default -> new int[] {itemOrSo()};
        };
        return Arrays.stream(all).limit(count).boxed().toArray();
    }

    private static boolean rarely() {
        return next(20) == 0;
    }

    private int itemOrSo() {
        return rarely() ? -1 + (model.items() + 1) * next(2) : next(model.items());
    }

    private int menuOrSo() {
        int item = itemOrSo();
        for (int i = 0; i < 9 && item > 0 && item < model.items() && model.kind(item) != 0; i++) {
            item = itemOrSo();
        }
        return item;
    }

    private int[] limits() {
        int low = rarely() ? -1000 + 1999 * next(2) : next(3) == 0 ? -999 + next(1998) : -20 + next(40);
        int high = rarely() ? low + 1000 * next(2) : Math.min(999, low + 1 + next(next(3) == 0 ? 1998 : 30));
        int step = rarely() ? 101 * next(2) : next(3) == 0 ? 1 + next(100) : 1 + next(4);
        return new int[] {menuOrSo(), low, high, step};
    }

    private static int codeOrNone() {
        return next(6) == 0 ? -1 : CODES[next(CODES.length)];
    }

    /** Often the detents that lead to the right digit, so that locks are opened, too. */
    private int detents() {
        if (model.detentsToDigit() != 0 && next(4) != 0) {
            return model.detentsToDigit();
        }
        if (rarely()) {
            return -51 + 102 * next(2);
        }
        return next(4) == 0 ? next(101) - 50 : next(13) - 6;
    }

    /** A value from 0, which is too small but for setting 2, to the first one that is too large. */
    private static int[] setting() {
        int setting = rarely() ? -1 + 4 * next(2) : next(3);
        int tooLarge = setting == 0 ? 61 : setting == 1 ? 100 : 2;
        int any = next(tooLarge + 1);
        int[] values = {any, any, next(Math.min(9, tooLarge)), 0, 1, tooLarge - 1, tooLarge};
        return new int[] {setting, values[next(values.length)]};
    }

    /** Lets an action text be typed and executed next, at times with a wrong sign in it. */
    private void typeActions() {
        StringBuilder text = new StringBuilder(action());
        for (int i = next(next(4) == 0 ? 40 : 10); i > 0; i--) {
            text.append(',').append(action());
        }
        if (next(4) == 0) {
            text.setCharAt(next(text.length()), "rlpht,0123456789a ".charAt(next(18)));
        }
        if (next(4) != 0) {
            upcoming.add("clearText");
        }
        for (int i = 0; i < text.length(); i++) {
            upcoming.add("append");
            signs.add((int) text.charAt(i));
        }
        upcoming.addAll(List.of("firstError", "run", "digest"));
    }

    private static String action() {
        return switch (next(8)) {
            case 0 -> "r" + (1 + next(rarely() ? 60 : 9));
            case 1 -> "l" + (1 + next(rarely() ? 60 : 9));
            case 2 -> "t" + (1 + next(rarely() ? 110 : 20));
            case 3 -> "h";
            default -> "p";
        };
    }
}
