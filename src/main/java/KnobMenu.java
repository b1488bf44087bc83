/** A menu of a device with a display of two lines and one knob that can be turned and pressed. */
public final class KnobMenu {
    public static final int NONE = -1;

    private static final int MAX_ITEMS = 24;
    private static final int MENU_SIZE = 8;
    private static final int DEEPEST_MENU = 3;

    private static final int MENU = 0;
    private static final int NUMBER = 1;
    private static final int CHOICE = 2;

    private static final int LOWEST_VALUE = -999;
    private static final int HIGHEST_VALUE = 999;
    private static final int LARGEST_STEP = 100;
    private static final int FEWEST_OPTIONS = 2;
    private static final int MOST_OPTIONS = 9;
    private static final int HIGHEST_CODE = 9999;
    private static final int MOST_DETENTS = 50;
    private static final int MOST_TICKS = 99;

    private static final int BROWSING = 0;
    private static final int EDITING = 1;
    private static final int ASKING = 2;

    private static final int EDIT_TIMEOUT = 0;
    private static final int HOME_TIMEOUT = 1;
    private static final int WRAPPING = 2;
    private static final int SETTINGS = 3;

    private static final int EVENT_DETENTS = 0;
    private static final int EVENT_PRESSES = 1;
    private static final int EVENT_EDITS = 2;
    private static final int EVENT_TAKEN_BACK = 3;
    private static final int EVENT_WRONG_CODES = 4;
    private static final int EVENT_BARRED = 5;
    private static final int EVENT_TIMEOUTS = 6;
    private static final int EVENT_TICKS = 7;
    private static final int EVENTS = 8;

    private static final int DID_NOTHING = 0;
    private static final int WENT_BACK = 1;
    private static final int ENTERED_MENU = 2;
    private static final int BEGAN_EDIT = 3;
    private static final int ENDED_EDIT = 4;
    private static final int BEGAN_CODE = 5;
    private static final int NEXT_DIGIT = 6;
    private static final int OPENED = 7;
    private static final int WRONG_CODE = 8;
    private static final int IS_BARRED = 9;

    private static final int FAST_DETENTS = 5;
    private static final int CODE_DIGITS = 4;
    private static final int WRONG_CODES_TO_BAR = 3;
    private static final int BARRED_TICKS = 30;
    private static final int LOG_SIZE = 8;

    private static final int LINES = 2;
    private static final int COLUMNS = 16;

    private static final int TEXT_SIZE = 60;
    private static final int LOWEST_SIGN = 33;
    private static final int HIGHEST_SIGN = 126;

    private static final long FIRST_HASH = 4364L;

    private final Tree tree;
    private final EditLog log;
    private final Preset firstPreset;
    private final Preset secondPreset;
    private final Device device;
    private final Screen screen;
    private final ActionText text;

    public KnobMenu() {
        tree = new Tree();
        log = new EditLog();
        firstPreset = new Preset();
        secondPreset = new Preset();
        device = new Device(tree, log);
        screen = new Screen();
        text = new ActionText();
    }

    // ---- items

    public int addMenu(int menu) throws IndexOutOfBoundsException, IllegalArgumentException, IllegalStateException {
        Item parent = menuNumbered(menu);
        if (parent.level >= DEEPEST_MENU) {
            throw new IllegalStateException("the menu is too deep for another menu");
        }
        return added(parent, MENU, 0, 0, 0);
    }

    public int addNumber(int menu, int low, int high, int step)
            throws IndexOutOfBoundsException, IllegalArgumentException, IllegalStateException {
        Item parent = menuNumbered(menu);
        if (low < LOWEST_VALUE || high > HIGHEST_VALUE || high <= low) {
            throw new IllegalArgumentException("a limit is out of range");
        }
        if (step < 1 || step > LARGEST_STEP) {
            throw new IllegalArgumentException("step is out of range");
        }
        return added(parent, NUMBER, low, high, step);
    }

    public int addChoice(int menu, int options)
            throws IndexOutOfBoundsException, IllegalArgumentException, IllegalStateException {
        Item parent = menuNumbered(menu);
        if (options < FEWEST_OPTIONS || options > MOST_OPTIONS) {
            throw new IllegalArgumentException("options is out of range");
        }
        return added(parent, CHOICE, 0, options - 1, 1);
    }

    public int lock(int item, int code)
            throws IndexOutOfBoundsException, IllegalArgumentException, IllegalStateException {
        Item found = itemNumbered(item);
        if (found.menu == null) {
            throw new IllegalArgumentException("the root has no lock");
        }
        if (code < NONE || code > HIGHEST_CODE) {
            throw new IllegalArgumentException("code is out of range");
        }
        requireHome();
        int previous = found.code;
        found.code = code;
        found.open = false;
        return previous;
    }

    public int items() {
        return tree.count;
    }

    public int kind(int item) throws IndexOutOfBoundsException {
        return itemNumbered(item).kind;
    }

    public int menuOf(int item) throws IndexOutOfBoundsException {
        return numberOf(itemNumbered(item).menu);
    }

    public int value(int item) throws IndexOutOfBoundsException, IllegalArgumentException {
        Item found = itemNumbered(item);
        if (found.kind == MENU) {
            throw new IllegalArgumentException("a menu has no value");
        }
        return found.value;
    }

    public boolean isClosed(int item) throws IndexOutOfBoundsException {
        return itemNumbered(item).closed();
    }

    // ---- the knob

    public int turn(int detents) throws IllegalArgumentException {
        requireDetents(detents);
        return device.turnBy(detents);
    }

    public int press() {
        return device.pressKnob();
    }

    public int hold() {
        return device.holdKnob();
    }

    public int tick(int ticks) throws IllegalArgumentException {
        if (ticks < 1 || ticks > MOST_TICKS) {
            throw new IllegalArgumentException("ticks is out of range");
        }
        return device.passTicks(ticks);
    }

    public int set(int setting, int value) throws IndexOutOfBoundsException, IllegalArgumentException {
        if (setting < 0 || setting >= SETTINGS) {
            throw new IndexOutOfBoundsException("there is no such setting");
        }
        if (value < leastOf(setting) || value > mostOf(setting)) {
            throw new IllegalArgumentException("value is out of range");
        }
        int previous = device.setting(setting);
        device.changeSetting(setting, value);
        return previous;
    }

    // ---- log, presets

    public int takeBack() throws IllegalStateException {
        Item latest = log.latestItem();
        if (latest == null) {
            throw new IllegalStateException("the log is empty");
        }
        latest.value = log.latestValue();
        log.removeLatest();
        device.count(EVENT_TAKEN_BACK, 1);
        return latest.number;
    }

    public int savePreset(int preset) throws IllegalArgumentException {
        return presetNumbered(preset).save(tree);
    }

    public int loadPreset(int preset) throws IllegalArgumentException, IllegalStateException {
        Preset loaded = presetNumbered(preset);
        if (!loaded.saved) {
            throw new IllegalStateException("the preset is empty");
        }
        log.removeAll();
        return loaded.load(tree);
    }

    // ---- queries

    public int mode() {
        return device.mode;
    }

    public int shown() {
        return device.shown.number;
    }

    public int cursor() {
        return device.cursor;
    }

    public int chosen() {
        return numberOf(device.chosenItem());
    }

    public int draft() {
        return device.mode == EDITING ? device.draft : 0;
    }

    public int idle() {
        return device.idle;
    }

    public int barred() {
        return device.barredTicks;
    }

    public int logged() {
        return log.count;
    }

    public boolean isHome() {
        return device.atHome();
    }

    public int display(int line, int column) throws IndexOutOfBoundsException {
        if (line < 0 || line >= LINES || column < 0 || column >= COLUMNS) {
            throw new IndexOutOfBoundsException("there is no such line or column");
        }
        screen.draw(device);
        return screen.signAt(line, column);
    }

    public int events(int event) throws IndexOutOfBoundsException {
        if (event < 0 || event >= EVENTS) {
            throw new IndexOutOfBoundsException("there is no such event");
        }
        return device.counted(event);
    }

    // ---- forecasts; they change nothing

    public int ifTurned(int detents) throws IllegalArgumentException {
        requireDetents(detents);
        return device.turned(detents);
    }

    public int pressesTo(int item) throws IndexOutOfBoundsException {
        return itemNumbered(item).level;
    }

    public int detentsTo(int item) throws IndexOutOfBoundsException {
        return device.detentsFromHome(itemNumbered(item));
    }

    public int codesTo(int item) throws IndexOutOfBoundsException {
        int codes = 0;
        for (Item at = itemNumbered(item); at != null; at = at.menu) {
            if (at.closed()) {
                codes++;
            }
        }
        return codes;
    }

    public int ticksToHome() {
        return device.ticksUntilHome();
    }

    public double fraction() {
        int above = 0;
        int range = 0;
        for (int i = 0; i < tree.count; i++) {
            Item item = tree.find(i);
            if (item != null && item.kind == NUMBER) {
                above += item.value - item.low;
                range += item.high - item.low;
            }
        }
        return range > 0 ? (double) above / (double) range : 0.0;
    }

    // ---- action text

    public int append(int code) throws IllegalArgumentException, IllegalStateException {
        if (code < LOWEST_SIGN || code > HIGHEST_SIGN) {
            throw new IllegalArgumentException("code is out of range");
        }
        if (text.length >= TEXT_SIZE) {
            throw new IllegalStateException("the buffer is full");
        }
        text.keep((char) code);
        return text.length;
    }

    public int clearText() {
        int length = text.length;
        text.empty();
        return length;
    }

    public int firstError() {
        return text.errorIndex();
    }

    public int run() throws IllegalArgumentException {
        if (!text.complete()) {
            throw new IllegalArgumentException("the buffer is not a complete action text");
        }
        int results = 0;
        text.restart();
        for (int i = 0; i < TEXT_SIZE && text.readAction(); i++) {
            results += device.perform(text.verb(), text.amount());
        }
        text.empty();
        return results;
    }

    public long digest() {
        long hash = mixPosition(FIRST_HASH);
        hash = mixItems(hash);
        for (int event = 0; event < EVENTS; event++) {
            hash = mix(hash, device.counted(event));
        }
        screen.draw(device);
        hash = mixScreen(hash);
        return mix(hash, floatBits((float) fraction()));
    }

    // ---- looking up

    private Item itemNumbered(int number) {
        Item found = tree.find(number);
        if (found == null) {
            throw new IndexOutOfBoundsException("there is no such item");
        }
        return found;
    }

    private Item menuNumbered(int number) {
        Item found = itemNumbered(number);
        if (found.kind != MENU) {
            throw new IllegalArgumentException("the item is not a menu");
        }
        return found;
    }

    private Preset presetNumbered(int number) {
        if (number < 0 || number > 1) {
            throw new IllegalArgumentException("there is no such preset");
        }
        return number == 0 ? firstPreset : secondPreset;
    }

    private static int numberOf(Item item) {
        return item == null ? NONE : item.number;
    }

    private static int leastOf(int setting) {
        return setting == WRAPPING ? 0 : 1;
    }

    private static int mostOf(int setting) {
        if (setting == EDIT_TIMEOUT) {
            return 60;
        }
        return setting == HOME_TIMEOUT ? 99 : 1;
    }

    private void requireHome() {
        if (!device.atHome()) {
            throw new IllegalStateException("the device is not at home");
        }
    }

    private static void requireDetents(int detents) {
        if (detents < -MOST_DETENTS || detents > MOST_DETENTS) {
            throw new IllegalArgumentException("detents is out of range");
        }
    }

    private int added(Item parent, int kind, int low, int high, int step) {
        requireHome();
        if (tree.count >= MAX_ITEMS) {
            throw new IllegalStateException("there are 24 items");
        }
        if (parent.childCount >= MENU_SIZE) {
            throw new IllegalStateException("the menu has 8 items");
        }
        Item item = new Item(tree.count, kind, parent, low, high, step);
        parent.keepChild(item);
        tree.keep(item);
        return item.number;
    }

    // ---- the digest

    private static long mix(long hash, long value) {
        return 31L * hash + value;
    }

    private long mixPosition(long start) {
        long hash = mix(start, items());
        hash = mix(hash, mode());
        hash = mix(hash, shown());
        hash = mix(hash, cursor());
        hash = mix(hash, chosen());
        hash = mix(hash, draft());
        hash = mix(hash, idle());
        hash = mix(hash, barred());
        hash = mix(hash, logged());
        return mix(hash, ticksToHome());
    }

    private long mixItems(long start) {
        long hash = start;
        for (int i = 0; i < tree.count; i++) {
            Item item = tree.find(i);
            if (item != null) {
                hash = mix(hash, item.kind);
                hash = mix(hash, numberOf(item.menu));
                hash = mix(hash, item.closed() ? 1 : 0);
                hash = mix(hash, item.value);
            }
        }
        return hash;
    }

    private long mixScreen(long start) {
        long hash = start;
        for (int line = 0; line < LINES; line++) {
            for (int column = 0; column < COLUMNS; column++) {
                hash = mix(hash, screen.signAt(line, column));
            }
        }
        return hash;
    }

    /** The bits of a float from 0 to 1, by hand, because the library's own function is not at hand here. */
    private static int floatBits(float share) {
        if (share <= 0.0f) {
            return 0;
        }
        float scaled = share;
        int exponent = 127;
        for (; scaled < 1.0f && exponent > 1; exponent--) {
            scaled = scaled * 2.0f;
        }
        return (exponent << 23) + (int) ((scaled - 1.0f) * 8388608.0f);
    }

    /** One item of the tree. A choice is held like a number from 0 to (options - 1); a menu's value stays 0. */
    private static final class Item {
        final int number;
        final int kind;
        final Item menu;
        final int level;
        final int entry;
        final int low;
        final int high;
        final int step;
        final Item[] children;
        int childCount;
        int value;
        int code;
        boolean open;

        Item(int number, int kind, Item menu, int low, int high, int step) {
            this.number = number;
            this.kind = kind;
            this.menu = menu;
            this.level = menu == null ? 0 : menu.level + 1;
            this.entry = menu == null ? 0 : menu.childCount;
            this.low = low;
            this.high = high;
            this.step = step;
            this.children = new Item[MENU_SIZE];
            this.value = low;
            this.code = NONE;
        }

        boolean locked() {
            return code != NONE;
        }

        boolean closed() {
            return locked() && !open;
        }

        int entries() {
            return menu == null ? childCount : childCount + 1;
        }

        /** The item of this menu at an entry; null for back and where there is no entry. */
        Item childAt(int index) {
            return index >= 0 && index < childCount && index < children.length ? children[index] : null;
        }

        void keepChild(Item child) {
            if (childCount >= 0 && childCount < children.length) {
                children[childCount] = child;
                childCount++;
            }
        }
    }

    /** All items in the order in which they were added. */
    private static final class Tree {
        final Item root;
        final Item[] items;
        int count;

        Tree() {
            root = new Item(0, MENU, null, 0, 0, 0);
            items = new Item[MAX_ITEMS];
            keep(root);
        }

        void keep(Item item) {
            if (count >= 0 && count < items.length) {
                items[count] = item;
                count++;
            }
        }

        Item find(int number) {
            return number >= 0 && number < count && number < items.length ? items[number] : null;
        }

        boolean anyOpen() {
            for (int i = 0; i < count; i++) {
                Item item = find(i);
                if (item != null && item.locked() && item.open) {
                    return true;
                }
            }
            return false;
        }

        void closeAll() {
            for (int i = 0; i < count; i++) {
                Item item = find(i);
                if (item != null) {
                    item.open = false;
                }
            }
        }
    }

    /** The latest edits, the oldest one first. */
    private static final class EditLog {
        final Item[] items = new Item[LOG_SIZE];
        final int[] values = new int[LOG_SIZE];
        int count;

        void keep(Item item, int value) {
            if (count >= LOG_SIZE) {
                removeOldest();
            }
            if (count >= 0 && count < items.length && count < values.length) {
                items[count] = item;
                values[count] = value;
                count++;
            }
        }

        private void removeOldest() {
            for (int i = 1; i < items.length && i < values.length; i++) {
                items[i - 1] = items[i];
                values[i - 1] = values[i];
            }
            removeLatest();
        }

        /** The item of the latest edit; null if the log is empty. */
        Item latestItem() {
            return count > 0 && count <= items.length ? items[count - 1] : null;
        }

        int latestValue() {
            return count > 0 && count <= values.length ? values[count - 1] : 0;
        }

        void removeLatest() {
            if (count > 0) {
                count--;
            }
        }

        void removeAll() {
            count = 0;
        }
    }

    /** The values of the items that existed when it was saved. */
    private static final class Preset {
        final int[] values = new int[MAX_ITEMS];
        int count;
        boolean saved;

        int save(Tree tree) {
            int kept = 0;
            for (int i = 0; i < tree.count && i < values.length; i++) {
                Item item = tree.find(i);
                if (item != null && item.kind != MENU) {
                    values[i] = item.value;
                    kept++;
                }
            }
            count = tree.count;
            saved = true;
            return kept;
        }

        int load(Tree tree) {
            int changed = 0;
            for (int i = 0; i < count && i < values.length; i++) {
                Item item = tree.find(i);
                if (item != null && item.kind != MENU && item.value != values[i]) {
                    item.value = values[i];
                    changed++;
                }
            }
            return changed;
        }
    }

    /** What the knob and the ticks move: the shown menu, the cursor, the edit, the code and the settings. */
    private static final class Device {
        final Tree tree;
        final EditLog log;
        final int[] digits = new int[CODE_DIGITS];
        final int[] settings = {10, 30, 0};
        final int[] events = new int[EVENTS];
        Item shown;
        int mode;
        int cursor;
        int draft;
        int place;
        int idle;
        int barredTicks;
        int wrongInRow;

        Device(Tree tree, EditLog log) {
            this.tree = tree;
            this.log = log;
            this.shown = tree.root;
        }

        int setting(int index) {
            return index >= 0 && index < settings.length ? settings[index] : 0;
        }

        void changeSetting(int index, int value) {
            if (index >= 0 && index < settings.length) {
                settings[index] = value;
            }
        }

        int counted(int event) {
            return event >= 0 && event < events.length ? events[event] : 0;
        }

        void count(int event, int more) {
            if (event >= 0 && event < events.length) {
                events[event] += more;
            }
        }

        int digit(int index) {
            return index >= 0 && index < digits.length ? digits[index] : 0;
        }

        void changeDigit(int index, int digit) {
            if (index >= 0 && index < digits.length) {
                digits[index] = digit;
            }
        }

        Item chosenItem() {
            return shown.childAt(cursor);
        }

        boolean atHome() {
            return mode == BROWSING && wouldBeHomeBrowsing();
        }

        private boolean wouldBeHomeBrowsing() {
            return shown == tree.root && cursor == 0 && !tree.anyOpen();
        }

        private void goHome() {
            mode = BROWSING;
            shown = tree.root;
            cursor = 0;
            tree.closeAll();
        }

        // ---- turning

        int turnBy(int detents) {
            int position = turned(detents);
            if (mode == EDITING) {
                draft = position;
            } else if (mode == ASKING) {
                changeDigit(place, position);
            } else {
                cursor = position;
            }
            idle = 0;
            count(EVENT_DETENTS, Math.abs(detents));
            return position;
        }

        /** The cursor, draft or digit after a turn that is not made. */
        int turned(int detents) {
            if (mode == EDITING) {
                return turnedDraft(detents);
            }
            if (mode == ASKING) {
                return around(digit(place) + detents, 10);
            }
            int entries = shown.entries();
            if (setting(WRAPPING) == 1) {
                return around(cursor + detents, entries);
            }
            return Math.max(0, Math.min(entries - 1, cursor + detents));
        }

        private int turnedDraft(int detents) {
            Item item = chosenItem();
            if (item == null) {
                return draft;
            }
            if (item.kind == CHOICE) {
                return around(draft + detents, item.high + 1);
            }
            int speed = Math.abs(detents) >= FAST_DETENTS ? 2 : 1;
            int moved = draft + detents * speed * item.step;
            return Math.max(item.low, Math.min(item.high, moved));
        }

        private static int around(int position, int places) {
            return places > 0 ? Math.floorMod(position, places) : 0;
        }

        // ---- pressing

        int pressKnob() {
            idle = 0;
            count(EVENT_PRESSES, 1);
            Item item = chosenItem();
            if (item == null) {
                return goBack();
            }
            if (mode == EDITING) {
                return endEdit(item);
            }
            if (mode == ASKING) {
                return endDigit(item);
            }
            if (item.closed()) {
                return beginCode();
            }
            return use(item);
        }

        private int goBack() {
            Item left = shown;
            Item outer = left.menu;
            if (outer == null) {
                return DID_NOTHING;
            }
            shown = outer;
            cursor = left.entry;
            return WENT_BACK;
        }

        private int use(Item item) {
            if (item.kind == MENU) {
                shown = item;
                cursor = 0;
                return ENTERED_MENU;
            }
            mode = EDITING;
            draft = item.value;
            return BEGAN_EDIT;
        }

        private int endEdit(Item item) {
            mode = BROWSING;
            if (item.value != draft) {
                log.keep(item, item.value);
                item.value = draft;
                count(EVENT_EDITS, 1);
            }
            return ENDED_EDIT;
        }

        private int beginCode() {
            if (barredTicks > 0) {
                return IS_BARRED;
            }
            mode = ASKING;
            place = 0;
            for (int i = 0; i < CODE_DIGITS; i++) {
                changeDigit(i, 0);
            }
            return BEGAN_CODE;
        }

        private int endDigit(Item item) {
            if (place < CODE_DIGITS - 1) {
                place++;
                return NEXT_DIGIT;
            }
            mode = BROWSING;
            if (enteredCode() == item.code) {
                item.open = true;
                wrongInRow = 0;
                return OPENED;
            }
            countWrongCode();
            return WRONG_CODE;
        }

        private int enteredCode() {
            int code = 0;
            for (int i = 0; i < CODE_DIGITS; i++) {
                code = 10 * code + digit(i);
            }
            return code;
        }

        private void countWrongCode() {
            count(EVENT_WRONG_CODES, 1);
            wrongInRow++;
            if (wrongInRow >= WRONG_CODES_TO_BAR) {
                wrongInRow = 0;
                barredTicks = BARRED_TICKS;
                count(EVENT_BARRED, 1);
            }
        }

        // ---- holding, ticks

        int holdKnob() {
            int before = mode;
            idle = 0;
            if (before == BROWSING) {
                goHome();
            }
            mode = BROWSING;
            return before;
        }

        int passTicks(int ticks) {
            int timeouts = 0;
            for (int i = 0; i < ticks; i++) {
                timeouts += passTick();
            }
            count(EVENT_TICKS, ticks);
            count(EVENT_TIMEOUTS, timeouts);
            return timeouts;
        }

        private int passTick() {
            int timeouts = 0;
            idle++;
            if (barredTicks > 0) {
                barredTicks--;
            }
            if (idle == setting(EDIT_TIMEOUT) && mode != BROWSING) {
                mode = BROWSING;
                timeouts++;
            }
            if (idle == setting(HOME_TIMEOUT) && !atHome()) {
                goHome();
                timeouts++;
            }
            return timeouts;
        }

        int ticksUntilHome() {
            if (atHome()) {
                return 0;
            }
            int byEdit = wouldBeHomeBrowsing() ? setting(EDIT_TIMEOUT) - idle : 0;
            int byHome = setting(HOME_TIMEOUT) - idle;
            if (byEdit > 0 && byHome > 0) {
                return Math.min(byEdit, byHome);
            }
            int least = Math.max(byEdit, byHome);
            return least > 0 ? least : NONE;
        }

        int detentsFromHome(Item item) {
            int detents = 0;
            Item at = item;
            for (Item outer = item.menu; outer != null; outer = outer.menu) {
                detents += detentsToEntry(at.entry, outer.entries());
                at = outer;
            }
            return detents;
        }

        private int detentsToEntry(int entry, int entries) {
            return setting(WRAPPING) == 1 ? Math.min(entry, entries - entry) : entry;
        }

        // ---- actions

        /** Does an action of an action text; the answer is the result if it is a press, otherwise 0. */
        int perform(char verb, int amount) {
            if (verb == 'p') {
                return pressKnob();
            }
            if (verb == 'h') {
                holdKnob();
            } else if (verb == 't') {
                passTicks(amount);
            } else {
                turnBy(verb == 'l' ? -amount : amount);
            }
            return 0;
        }
    }

    /** The two lines, drawn anew whenever they are read. */
    private static final class Screen {
        final char[] signs = new char[LINES * COLUMNS];

        void draw(Device device) {
            clear();
            Item item = device.chosenItem();
            if (device.mode == EDITING) {
                writeTitle("EDIT ", item);
                writeAtEnd(1, device.draft);
            } else if (device.mode == ASKING) {
                writeTitle("CODE ", item);
                writeDigits(device);
            } else {
                writeName(0, device.shown);
                writeChosen(device.shown, item);
            }
        }

        char signAt(int line, int column) {
            int index = line * COLUMNS + column;
            return index >= 0 && index < signs.length ? signs[index] : ' ';
        }

        private void clear() {
            for (int i = 0; i < signs.length; i++) {
                signs[i] = ' ';
            }
        }

        private void put(int line, int column, char sign) {
            int index = line * COLUMNS + column;
            if (index >= 0 && index < signs.length) {
                signs[index] = sign;
            }
        }

        private int write(int line, String words) {
            for (int i = 0; i < words.length(); i++) {
                put(line, i, words.charAt(i));
            }
            return words.length();
        }

        /** Writes a number so that its last digit stands in the column. */
        private void writeEndingAt(int line, int column, int value) {
            int rest = Math.abs(value);
            int at = column;
            do {
                put(line, at, (char) ('0' + rest % 10));
                rest = rest / 10;
                at--;
            } while (rest > 0 && at > 0);
            if (value < 0) {
                put(line, at, '-');
            }
        }

        private void writeAtEnd(int line, int value) {
            writeEndingAt(line, COLUMNS - 1, value);
        }

        private void writeNumbered(int line, String words, int number) {
            int column = write(line, words);
            writeEndingAt(line, number < 10 ? column : column + 1, number);
        }

        private void writeTitle(String words, Item item) {
            if (item != null) {
                writeNumbered(0, words, item.number);
            }
        }

        private void writeName(int line, Item item) {
            if (item.kind == MENU) {
                writeNumbered(line, "MENU ", item.number);
            } else if (item.kind == NUMBER) {
                writeNumbered(line, "NUMBER ", item.number);
            } else {
                writeNumbered(line, "CHOICE ", item.number);
            }
        }

        private void writeChosen(Item menu, Item chosen) {
            if (chosen != null) {
                writeName(1, chosen);
                writeState(chosen);
            } else if (menu.entries() > 0) {
                write(1, "BACK");
            }
        }

        private void writeState(Item item) {
            if (item.closed()) {
                put(1, COLUMNS - 1, 'L');
            } else if (item.kind == MENU) {
                put(1, COLUMNS - 1, '>');
            } else {
                writeAtEnd(1, item.value);
            }
        }

        private void writeDigits(Device device) {
            for (int i = 0; i < CODE_DIGITS; i++) {
                if (i < device.place) {
                    put(1, i, '*');
                } else if (i == device.place) {
                    put(1, i, (char) ('0' + device.digit(i)));
                } else {
                    put(1, i, '-');
                }
            }
        }
    }

    /** The buffer and the place up to which its actions have been read. */
    private static final class ActionText {
        final char[] signs = new char[TEXT_SIZE];
        final ActionReader reader = new ActionReader();
        int length;
        int next;

        void keep(char sign) {
            if (length >= 0 && length < signs.length) {
                signs[length] = sign;
                length++;
            }
        }

        void empty() {
            length = 0;
        }

        private char signAt(int index) {
            return index >= 0 && index < signs.length ? signs[index] : ' ';
        }

        int errorIndex() {
            reader.begin();
            for (int i = 0; i < length; i++) {
                if (!reader.takes(signAt(i))) {
                    return i;
                }
            }
            return length;
        }

        boolean complete() {
            return errorIndex() == length && reader.atEnd();
        }

        void restart() {
            next = 0;
        }

        /** Reads the next action of a complete action text, and its comma; false if there is none. */
        boolean readAction() {
            if (next >= length) {
                return false;
            }
            reader.begin();
            for (; next < length && signAt(next) != ','; next++) {
                reader.takes(signAt(next));
            }
            next++;
            return true;
        }

        char verb() {
            return reader.verb;
        }

        int amount() {
            return reader.amount;
        }
    }

    /** Reads action texts sign by sign. */
    private static final class ActionReader {
        private static final char NO_VERB = ' ';

        char verb = NO_VERB;
        int amount;

        void begin() {
            verb = NO_VERB;
            amount = 0;
        }

        /** Takes the next sign; false if it is an error. */
        boolean takes(char sign) {
            if (verb == NO_VERB) {
                return takesVerb(sign);
            }
            if (sign == ',') {
                return takesComma();
            }
            return sign >= '0' && sign <= '9' && takesDigit(sign - '0');
        }

        /** Whether the action that was begun could end here. */
        boolean atEnd() {
            return verb != NO_VERB && (amount > 0 || mostFor(verb) == 0);
        }

        private boolean takesVerb(char sign) {
            if (mostFor(sign) == NONE) {
                return false;
            }
            verb = sign;
            return true;
        }

        private boolean takesComma() {
            boolean ended = atEnd();
            if (ended) {
                begin();
            }
            return ended;
        }

        private boolean takesDigit(int digit) {
            int longer = 10 * amount + digit;
            if (longer < 1 || longer > mostFor(verb)) {
                return false;
            }
            amount = longer;
            return true;
        }

        /** The largest number behind a verb, 0 if it has none; NONE if the sign is no verb. */
        private static int mostFor(char sign) {
            if (sign == 'r' || sign == 'l') {
                return MOST_DETENTS;
            }
            if (sign == 't') {
                return MOST_TICKS;
            }
            return sign == 'p' || sign == 'h' ? 0 : NONE;
        }
    }
}
