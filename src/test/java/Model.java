import java.util.ArrayList;
import java.util.List;
import java.util.Map;
import java.util.TreeMap;
import java.util.regex.Matcher;
import java.util.regex.Pattern;
import java.util.stream.IntStream;

/**
 * The document told once more, with all that the Java library offers and without a thought of room or speed. It has
 * the face of KnobMenu, so that ModelTest can make the same call of both.
 */
public final class Model {
    private static final List<String> NAMES = List.of("MENU ", "NUMBER ", "CHOICE ");
    private static final String ACTION = "(?:[rl](?:[1-9]|[1-4][0-9]|50)|p|h|t[1-9][0-9]?)";
    private static final Pattern ACTION_TEXT = Pattern.compile(ACTION + "(?:," + ACTION + ")*");

    /** An item; its code is null without a lock, and its menu is null for the root. */
    private static final class Thing {
        int kind;
        Integer menu;
        int low;
        int high;
        int step;
        int value;
        Integer code;
        boolean open;
    }

    private record Edit(int item, int before) {
    }

    private final List<Thing> things = new ArrayList<>();
    private final List<Edit> log = new ArrayList<>();
    private final Map<Integer, Map<Integer, Integer>> presets = new TreeMap<>();
    private final int[] settings = {10, 30, 0};
    private final int[] events = new int[8];
    private String buffer = "";
    private int shown;
    private int cursor;
    private int mode;
    private int draft;
    private List<Integer> digits = new ArrayList<>();
    private int idle;
    private int barred;
    private int wrongInRow;

    public Model() {
        Thing root = new Thing();
        root.kind = 0;
        things.add(root);
    }

    // ---- items

    public int addMenu(int menu) {
        requireMenu(menu);
        requireRoomIn(menu);
        requireState(level(menu) != 3);
        return add(0, menu, 0, 0, 0);
    }

    public int addNumber(int menu, int low, int high, int step) {
        requireMenu(menu);
        requireArgument(low >= -999 && low <= 998 && high > low && high <= 999 && step >= 1 && step <= 100);
        requireRoomIn(menu);
        return add(1, menu, low, high, step);
    }

    public int addChoice(int menu, int options) {
        requireMenu(menu);
        requireArgument(options >= 2 && options <= 9);
        requireRoomIn(menu);
        return add(2, menu, 0, options - 1, 1);
    }

    private int add(int kind, int menu, int low, int high, int step) {
        Thing added = new Thing();
        added.kind = kind;
        added.menu = menu;
        added.low = low;
        added.high = high;
        added.step = step;
        added.value = low;
        things.add(added);
        return things.size() - 1;
    }

    public int lock(int item, int code) {
        requireItem(item);
        requireArgument(item != 0 && code >= -1 && code <= 9999);
        requireState(isHome());
        Thing thing = things.get(item);
        int previous = thing.code == null ? -1 : thing.code;
        thing.code = code == -1 ? null : Integer.valueOf(code);
        thing.open = false;
        return previous;
    }

    public int items() {
        return things.size();
    }

    public int kind(int item) {
        requireItem(item);
        return things.get(item).kind;
    }

    public int menuOf(int item) {
        requireItem(item);
        return item == 0 ? -1 : things.get(item).menu;
    }

    public int value(int item) {
        requireItem(item);
        requireArgument(things.get(item).kind != 0);
        return things.get(item).value;
    }

    public boolean isClosed(int item) {
        requireItem(item);
        return things.get(item).code != null && !things.get(item).open;
    }

    // ---- the knob

    public int turn(int detents) {
        int answer = ifTurned(detents);
        switch (mode) {
            case 0 -> cursor = answer;
            case 1 -> draft = answer;
            default -> digits.set(digits.size() - 1, answer);
        }
        idle = 0;
        events[0] += Math.abs(detents);
        return answer;
    }

    public int press() {
        idle = 0;
        events[1]++;
        if (mode == 1) {
            return pressEditing(things.get(chosen()));
        }
        if (mode == 2) {
            return digits.size() < 4 ? pressDigit() : pressCode(things.get(chosen()));
        }
        List<Integer> entries = entries(shown);
        return entries.isEmpty() ? 0 : pressEntry(entries.get(cursor));
    }

    private int pressEntry(int entry) {
        if (entry == -1) {
            int left = shown;
            shown = things.get(left).menu;
            cursor = entries(shown).indexOf(left);
            return 1;
        }
        if (isClosed(entry)) {
            if (barred > 0) {
                return 9;
            }
            mode = 2;
            digits = new ArrayList<>(List.of(0));
            return 5;
        }
        if (things.get(entry).kind == 0) {
            shown = entry;
            cursor = 0;
            return 2;
        }
        mode = 1;
        draft = things.get(entry).value;
        return 3;
    }

    private int pressEditing(Thing thing) {
        mode = 0;
        if (thing.value != draft) {
            log.add(new Edit(things.indexOf(thing), thing.value));
            while (log.size() > 8) {
                log.remove(0);
            }
            thing.value = draft;
            events[2]++;
        }
        return 4;
    }

    private int pressDigit() {
        digits.add(0);
        return 6;
    }

    private int pressCode(Thing thing) {
        mode = 0;
        int entered = 1000 * digits.get(0) + 100 * digits.get(1) + 10 * digits.get(2) + digits.get(3);
        if (thing.code.equals(entered)) {
            thing.open = true;
            wrongInRow = 0;
            return 7;
        }
        events[4]++;
        wrongInRow++;
        if (wrongInRow == 3) {
            barred = 30;
            wrongInRow = 0;
            events[5]++;
        }
        return 8;
    }

    public int hold() {
        int before = mode;
        idle = 0;
        if (mode == 0) {
            goHome();
        }
        mode = 0;
        return before;
    }

    public int tick(int ticks) {
        requireArgument(ticks >= 1 && ticks <= 99);
        int before = events[6];
        for (int i = 0; i < ticks; i++) {
            tickOnce();
        }
        return events[6] - before;
    }

    private void tickOnce() {
        events[7]++;
        idle++;
        barred = Math.max(0, barred - 1);
        if (idle == settings[0] && mode != 0) {
            mode = 0;
            events[6]++;
        }
        if (idle == settings[1] && !isHome()) {
            goHome();
            events[6]++;
        }
    }

    public int set(int setting, int value) {
        requireIndex(setting >= 0 && setting <= 2);
        requireArgument(switch (setting) {
            case 0 -> value >= 1 && value <= 60;
            case 1 -> value >= 1 && value <= 99;
            default -> value == 0 || value == 1;
        });
        int previous = settings[setting];
        settings[setting] = value;
        return previous;
    }

    // ---- log, presets

    public int takeBack() {
        requireState(!log.isEmpty());
        Edit latest = log.remove(log.size() - 1);
        things.get(latest.item()).value = latest.before();
        events[3]++;
        return latest.item();
    }

    public int savePreset(int preset) {
        requireArgument(preset == 0 || preset == 1);
        Map<Integer, Integer> values = new TreeMap<>();
        for (int item = 0; item < things.size(); item++) {
            if (things.get(item).kind != 0) {
                values.put(item, things.get(item).value);
            }
        }
        presets.put(preset, values);
        return values.size();
    }

    public int loadPreset(int preset) {
        requireArgument(preset == 0 || preset == 1);
        requireState(presets.containsKey(preset));
        log.clear();
        int changed = 0;
        for (Map.Entry<Integer, Integer> saved : presets.get(preset).entrySet()) {
            Thing thing = things.get(saved.getKey());
            changed += thing.value == saved.getValue() ? 0 : 1;
            thing.value = saved.getValue();
        }
        return changed;
    }

    // ---- queries

    public int mode() {
        return mode;
    }

    public int shown() {
        return shown;
    }

    public int cursor() {
        return cursor;
    }

    public int chosen() {
        List<Integer> entries = entries(shown);
        return entries.isEmpty() ? -1 : entries.get(cursor);
    }

    public int draft() {
        return mode == 1 ? draft : 0;
    }

    public int idle() {
        return idle;
    }

    public int barred() {
        return barred;
    }

    public int logged() {
        return log.size();
    }

    public boolean isHome() {
        return mode == 0 && shown == 0 && cursor == 0 && noneIsOpen();
    }

    public int display(int line, int column) {
        requireIndex(line >= 0 && line <= 1 && column >= 0 && column <= 15);
        return line(line).charAt(column);
    }

    private String line(int line) {
        int item = chosen();
        if (mode == 1) {
            return line == 0 ? wide("EDIT " + item, "") : wide("", "" + draft);
        }
        if (mode == 2) {
            String entered = "*".repeat(digits.size() - 1) + digits.get(digits.size() - 1);
            return line == 0 ? wide("CODE " + item, "") : wide((entered + "---").substring(0, 4), "");
        }
        if (line == 0) {
            return wide(name(shown), "");
        }
        if (item == -1) {
            return wide(entries(shown).isEmpty() ? "" : "BACK", "");
        }
        String state = things.get(item).kind == 0 ? ">" : "" + things.get(item).value;
        return wide(name(item), isClosed(item) ? "L" : state);
    }

    private String name(int item) {
        return NAMES.get(things.get(item).kind) + item;
    }

    private static String wide(String left, String right) {
        return left + " ".repeat(16 - left.length() - right.length()) + right;
    }

    public int events(int event) {
        requireIndex(event >= 0 && event <= 7);
        return events[event];
    }

    // ---- forecasts

    public int ifTurned(int detents) {
        requireArgument(detents >= -50 && detents <= 50);
        if (mode == 1 && things.get(chosen()).kind == 1) {
            Thing thing = things.get(chosen());
            int moved = draft + (Math.abs(detents) >= 5 ? 2 * detents : detents) * thing.step;
            return moved < thing.low ? thing.low : moved > thing.high ? thing.high : moved;
        }
        if (mode == 1) {
            return stepwise(draft, detents, things.get(chosen()).high, true);
        }
        if (mode == 2) {
            return stepwise(digits.get(digits.size() - 1), detents, 9, true);
        }
        int entries = entries(shown).size();
        return entries == 0 ? 0 : stepwise(cursor, detents, entries - 1, settings[2] == 1);
    }

    /** Goes one place at a time, from 0 to the last one, and over the ends if it may. */
    private static int stepwise(int from, int detents, int last, boolean around) {
        int at = from;
        for (int i = 0; i < Math.abs(detents); i++) {
            if (detents > 0) {
                at = at < last ? at + 1 : around ? 0 : last;
            } else {
                at = at > 0 ? at - 1 : around ? last : 0;
            }
        }
        return at;
    }

    public int pressesTo(int item) {
        requireItem(item);
        return level(item);
    }

    public int detentsTo(int item) {
        requireItem(item);
        if (item == 0) {
            return 0;
        }
        int menu = things.get(item).menu;
        List<Integer> entries = entries(menu);
        int due = entries.indexOf(item);
        int least = 0;
        while (stepwise(0, least, entries.size() - 1, settings[2] == 1) != due
            && stepwise(0, -least, entries.size() - 1, settings[2] == 1) != due) {
            least++;
        }
        return least + detentsTo(menu);
    }

    public int codesTo(int item) {
        requireItem(item);
        return (isClosed(item) ? 1 : 0) + (item == 0 ? 0 : codesTo(things.get(item).menu));
    }

    /** Lets ticks pass for what a timeout may change; none comes later than the 99th tick of the idle time. */
    public int ticksToHome() {
        boolean rests = mode == 0;
        boolean home = isHome();
        for (int ticks = 0; ticks <= 99; ticks++) {
            int time = idle + ticks;
            if (ticks > 0 && time == settings[0] && !rests) {
                rests = true;
                home = shown == 0 && cursor == 0 && noneIsOpen();
            }
            if (ticks > 0 && time == settings[1]) {
                home = true;
            }
            if (home) {
                return ticks;
            }
        }
        return -1;
    }

    public double fraction() {
        double above = 0;
        double range = 0;
        for (Thing thing : things) {
            if (thing.kind == 1) {
                above += thing.value - thing.low;
                range += thing.high - thing.low;
            }
        }
        return range == 0 ? 0.0 : above / range;
    }

    // ---- action text

    public int append(int code) {
        requireArgument(code >= 33 && code <= 126);
        requireState(buffer.length() < 60);
        buffer += (char) code;
        return buffer.length();
    }

    public int clearText() {
        int length = buffer.length();
        buffer = "";
        return length;
    }

    public int firstError() {
        return IntStream.range(0, buffer.length()).filter(i -> !beginsText(buffer.substring(0, i + 1))).findFirst()
            .orElse(buffer.length());
    }

    /** Whether an action text begins with this; the matcher tells that only the end stopped it. */
    private static boolean beginsText(String begin) {
        Matcher matcher = ACTION_TEXT.matcher(begin);
        return matcher.matches() || matcher.hitEnd();
    }

    public int run() {
        requireArgument(ACTION_TEXT.matcher(buffer).matches());
        int results = 0;
        for (String action : buffer.split(",")) {
            int number = action.length() == 1 ? 0 : Integer.parseInt(action.substring(1));
            switch (action.charAt(0)) {
                case 'r' -> turn(number);
                case 'l' -> turn(-number);
                case 'h' -> hold();
                case 't' -> tick(number);
                default -> results += press();
            }
        }
        buffer = "";
        return results;
    }

    public long digest() {
        List<Integer> values = new ArrayList<>();
        values.addAll(List.of(items(), mode(), shown(), cursor(), chosen(), draft(), idle(), barred(), logged()));
        values.add(ticksToHome());
        for (int item = 0; item < things.size(); item++) {
            Thing thing = things.get(item);
            values.addAll(List.of(thing.kind, menuOf(item), isClosed(item) ? 1 : 0, thing.kind == 0 ? 0 : thing.value));
        }
        IntStream.range(0, 8).forEach(event -> values.add(events[event]));
        (line(0) + line(1)).chars().forEach(values::add);
        values.add(Float.floatToIntBits((float) fraction()));
        long hash = 4364;
        for (int value : values) {
            hash = 31 * hash + value;
        }
        return hash;
    }

    // ---- what ModelTest wants to know beside the face

    /** How far the digit at the place is from the one of the code; 0 if no code is asked for. */
    int detentsToDigit() {
        if (mode != 2) {
            return 0;
        }
        int place = digits.size() - 1;
        int due = String.format("%04d", things.get(chosen()).code).charAt(place) - '0';
        return due - digits.get(place);
    }

    // ---- the words of the document

    private List<Integer> entries(int menu) {
        List<Integer> entries = new ArrayList<>();
        for (int item = 1; item < things.size(); item++) {
            if (things.get(item).menu == menu) {
                entries.add(item);
            }
        }
        if (menu != 0) {
            entries.add(-1);
        }
        return entries;
    }

    private int level(int item) {
        return item == 0 ? 0 : level(things.get(item).menu) + 1;
    }

    private boolean noneIsOpen() {
        return things.stream().noneMatch(thing -> thing.code != null && thing.open);
    }

    private void goHome() {
        mode = 0;
        shown = 0;
        cursor = 0;
        things.forEach(thing -> thing.open = false);
    }

    private void requireItem(int item) {
        requireIndex(item >= 0 && item < things.size());
    }

    private void requireMenu(int menu) {
        requireItem(menu);
        requireArgument(things.get(menu).kind == 0);
    }

    private void requireRoomIn(int menu) {
        long size = things.stream().filter(thing -> thing.menu != null && thing.menu == menu).count();
        requireState(isHome() && things.size() < 24 && size < 8);
    }

    private static void requireIndex(boolean holds) {
        if (!holds) {
            throw new IndexOutOfBoundsException();
        }
    }

    private static void requireArgument(boolean holds) {
        if (!holds) {
            throw new IllegalArgumentException();
        }
    }

    private static void requireState(boolean holds) {
        if (!holds) {
            throw new IllegalStateException();
        }
    }
}
