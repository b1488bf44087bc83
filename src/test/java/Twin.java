import java.util.List;
import java.util.function.Function;
import java.util.function.IntSupplier;
import java.util.function.Supplier;

/** Tells two objects apart by what they answer to many calls, so that what the digest leaves out is seen, too. */
final class Twin {
    private static final List<Function<KnobMenu, String>> PROBES = List.of(Twin::digest, Twin::settings, Twin::log,
        Twin::presets, Twin::text, Twin::codes, Twin::pressing, Twin::ticking, Twin::adding, Twin::limits);

    private Twin() {
    }

    static void same(String what, Supplier<KnobMenu> got, Supplier<KnobMenu> due) {
        for (Function<KnobMenu, String> probe : PROBES) {
            Check.equal(what, probe.apply(got.get()), probe.apply(due.get()));
        }
    }

    private static String said(IntSupplier call) {
        try {
            return call.getAsInt() + " ";
        } catch (RuntimeException e) {
            return e.getClass().getSimpleName() + " ";
        }
    }

    private static void goHome(KnobMenu x) {
        x.hold();
        x.hold();
    }

    private static String digest(KnobMenu x) {
        return "digest " + x.digest();
    }

    private static String settings(KnobMenu x) {
        return "settings " + said(() -> x.set(0, 5)) + said(() -> x.set(1, 5)) + said(() -> x.set(2, 0));
    }

    private static String log(KnobMenu x) {
        StringBuilder all = new StringBuilder("log ");
        for (int i = 0; i < 9; i++) {
            all.append(said(() -> x.takeBack())).append(x.digest()).append(' ');
        }
        return all.toString();
    }

    private static String presets(KnobMenu x) {
        StringBuilder all = new StringBuilder("presets ");
        for (int i = 0; i < 2; i++) {
            int preset = i;
            all.append(said(() -> x.loadPreset(preset))).append(x.digest()).append(' ');
        }
        return all.toString();
    }

    private static String text(KnobMenu x) {
        String answers = said(() -> x.firstError()) + said(() -> x.run()) + said(() -> x.clearText());
        return "text " + answers + x.digest();
    }

    private static String codes(KnobMenu x) {
        StringBuilder all = new StringBuilder("codes ");
        goHome(x);
        for (int i = 0; i < x.items(); i++) {
            int item = i;
            all.append(said(() -> x.lock(item, -1)));
        }
        return all.toString();
    }

    private static String pressing(KnobMenu x) {
        StringBuilder all = new StringBuilder("pressing ");
        for (int i = 0; i < 20; i++) {
            all.append(said(() -> x.press())).append(said(() -> x.turn(1))).append(said(() -> x.barred()));
        }
        return all.toString();
    }

    private static String ticking(KnobMenu x) {
        StringBuilder all = new StringBuilder("ticking ");
        for (int i = 0; i < 50; i++) {
            all.append(said(() -> x.tick(1))).append(said(() -> x.mode())).append(x.isHome()).append(' ');
        }
        return all.toString();
    }

    private static String adding(KnobMenu x) {
        StringBuilder all = new StringBuilder("adding ");
        goHome(x);
        for (int i = 0; i < x.items(); i++) {
            int item = i;
            all.append(said(() -> x.addMenu(item))).append(said(() -> x.addChoice(item, 2)));
        }
        return all.append(x.digest()).toString();
    }

    /** The limits, steps and options of the root's items are seen from the drafts that their edits would have. */
    private static String limits(KnobMenu x) {
        StringBuilder all = new StringBuilder("limits ");
        for (int i = 0; i < 8; i++) {
            goHome(x);
            x.turn(i);
            all.append(said(() -> x.press())).append(said(() -> x.ifTurned(1)));
            all.append(said(() -> x.ifTurned(50))).append(said(() -> x.ifTurned(-50)));
        }
        return all.toString();
    }
}
