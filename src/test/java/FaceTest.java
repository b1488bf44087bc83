import java.lang.reflect.Constructor;
import java.lang.reflect.Field;
import java.lang.reflect.Method;
import java.lang.reflect.Modifier;
import java.util.ArrayList;
import java.util.Arrays;
import java.util.List;
import java.util.TreeSet;
import java.util.stream.Collectors;

/** "The public face": every constant, constructor and method as the document lists it, and no other. */
public final class FaceTest {
    private static final String FACE = """
        public static final int NONE = -1;
        public KnobMenu();
        public int addMenu(int menu) throws IndexOutOfBoundsException, IllegalArgumentException, IllegalStateException;
        public int addNumber(int menu, int low, int high, int step) throws IndexOutOfBoundsException, IllegalArgumentException, IllegalStateException;
        public int addChoice(int menu, int options) throws IndexOutOfBoundsException, IllegalArgumentException, IllegalStateException;
        public int lock(int item, int code) throws IndexOutOfBoundsException, IllegalArgumentException, IllegalStateException;
        public int items();
        public int kind(int item) throws IndexOutOfBoundsException;
        public int menuOf(int item) throws IndexOutOfBoundsException;
        public int value(int item) throws IndexOutOfBoundsException, IllegalArgumentException;
        public boolean isClosed(int item) throws IndexOutOfBoundsException;
        public int turn(int detents) throws IllegalArgumentException;
        public int press();
        public int hold();
        public int tick(int ticks) throws IllegalArgumentException;
        public int set(int setting, int value) throws IndexOutOfBoundsException, IllegalArgumentException;
        public int takeBack() throws IllegalStateException;
        public int savePreset(int preset) throws IllegalArgumentException;
        public int loadPreset(int preset) throws IllegalArgumentException, IllegalStateException;
        public int mode();
        public int shown();
        public int cursor();
        public int chosen();
        public int draft();
        public int idle();
        public int barred();
        public int logged();
        public boolean isHome();
        public int display(int line, int column) throws IndexOutOfBoundsException;
        public int events(int event) throws IndexOutOfBoundsException;
        public int ifTurned(int detents) throws IllegalArgumentException;
        public int pressesTo(int item) throws IndexOutOfBoundsException;
        public int detentsTo(int item) throws IndexOutOfBoundsException;
        public int codesTo(int item) throws IndexOutOfBoundsException;
        public int ticksToHome();
        public double fraction();
        public int append(int code) throws IllegalArgumentException, IllegalStateException;
        public int clearText();
        public int firstError();
        public int run() throws IllegalArgumentException;
        public long digest();
        """;

    public static void main(String[] args) {
        Check.equal("the class", Modifier.toString(KnobMenu.class.getModifiers()), "public final");
        Check.equal("a package", KnobMenu.class.getPackageName(), "");
        Check.equal("NONE", KnobMenu.NONE, -1);
        Check.equal("the face", String.join("\n", new TreeSet<>(face())), String.join("\n", new TreeSet<>(due())));
        Check.equal("lines of the face", face().size(), due().size());
        Check.end("FaceTest");
    }

    /** The names of parameters and the value of the constant are not to be had from the class itself. */
    private static List<String> due() {
        return FACE.lines().map(line -> line.replaceAll("(int) [a-z]+(?=[,)])", "$1").replace(" = -1", "")).toList();
    }

    /** All that is not private: the document's members must be public, and there must be no other ones. */
    private static List<String> face() {
        List<String> face = new ArrayList<>();
        for (Field field : KnobMenu.class.getDeclaredFields()) {
            if (!Modifier.isPrivate(field.getModifiers())) {
                String type = field.getType().getSimpleName();
                face.add(Modifier.toString(field.getModifiers()) + " " + type + " " + field.getName() + ";");
            }
        }
        for (Constructor<?> made : KnobMenu.class.getDeclaredConstructors()) {
            face.add(line(made.getModifiers(), "KnobMenu", made.getParameterTypes(), made.getExceptionTypes()));
        }
        for (Method method : KnobMenu.class.getDeclaredMethods()) {
            if (!Modifier.isPrivate(method.getModifiers())) {
                String name = method.getReturnType().getSimpleName() + " " + method.getName();
                face.add(line(method.getModifiers(), name, method.getParameterTypes(), method.getExceptionTypes()));
            }
        }
        return face;
    }

    private static String line(int modifiers, String name, Class<?>[] parameters, Class<?>[] exceptions) {
        String clause = exceptions.length == 0 ? "" : " throws " + names(exceptions);
        return Modifier.toString(modifiers) + " " + name + "(" + names(parameters) + ")" + clause + ";";
    }

    private static String names(Class<?>[] types) {
        return Arrays.stream(types).map(Class::getSimpleName).collect(Collectors.joining(", "));
    }
}
