import java.util.function.Consumer;
import java.util.function.Supplier;

/** Calls that must throw: exactly the exception that is due, and everything stays as it was. */
final class Refused {
    private Refused() {
    }

    static void noSuch(Supplier<KnobMenu> scene, String what, Consumer<KnobMenu> call) {
        refused(scene, what, IndexOutOfBoundsException.class, call);
    }

    static void badArgument(Supplier<KnobMenu> scene, String what, Consumer<KnobMenu> call) {
        refused(scene, what, IllegalArgumentException.class, call);
    }

    static void badState(Supplier<KnobMenu> scene, String what, Consumer<KnobMenu> call) {
        refused(scene, what, IllegalStateException.class, call);
    }

    /** The call must be refused in every state. */
    static void noSuchEver(String what, Consumer<KnobMenu> call) {
        for (Scene scene : Scene.values()) {
            noSuch(scene, what + " " + scene, call);
        }
    }

    static void badArgumentEver(String what, Consumer<KnobMenu> call) {
        for (Scene scene : Scene.values()) {
            badArgument(scene, what + " " + scene, call);
        }
    }

    /** The call must be refused wherever the device is not at home. */
    static void badStateAway(String what, Consumer<KnobMenu> call) {
        for (Scene scene : Scene.values()) {
            if (!scene.isAtHome()) {
                badState(scene, what + " " + scene, call);
            }
        }
    }

    private static void refused(Supplier<KnobMenu> scene, String what, Class<?> due, Consumer<KnobMenu> call) {
        Check.equal(what, thrownBy(scene.get(), call), due.getName());
        Twin.same(what + " leaves all as it was:", () -> after(scene.get(), call), scene);
    }

    private static KnobMenu after(KnobMenu x, Consumer<KnobMenu> call) {
        thrownBy(x, call);
        return x;
    }

    private static String thrownBy(KnobMenu x, Consumer<KnobMenu> call) {
        try {
            call.accept(x);
        } catch (RuntimeException e) {
            return e.getClass().getName();
        }
        return "nothing thrown";
    }
}
