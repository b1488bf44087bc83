import java.io.DataInputStream;
import java.io.IOException;
import java.io.InputStream;
import java.lang.reflect.Executable;
import java.lang.reflect.Field;
import java.lang.reflect.Method;
import java.lang.reflect.Modifier;
import java.nio.charset.StandardCharsets;
import java.nio.file.Files;
import java.nio.file.Path;
import java.util.ArrayList;
import java.util.Arrays;
import java.util.HashSet;
import java.util.List;
import java.util.Set;
import java.util.TreeSet;
import java.util.regex.Matcher;
import java.util.regex.Pattern;

/** Rules of LANGUAGE.md that can be seen from the source and from the compiled class. */
public final class LanguageTest {
    private static final Path SOURCE = Path.of("src/main/java/KnobMenu.java");

    /** What the class calls of the library, or could; more of rule 4 is added here when it is used. */
    private static final Set<String> LIBRARY = Set.of("java/lang/Object.<init>", "java/lang/String.length",
        "java/lang/String.charAt", "java/lang/Math.abs", "java/lang/Math.max", "java/lang/Math.min",
        "java/lang/Math.floorMod", "java/lang/IndexOutOfBoundsException.<init>",
        "java/lang/IllegalArgumentException.<init>", "java/lang/IllegalStateException.<init>");

    private static final Pattern BANNED = Pattern.compile("\\b(package|protected|finally|synchronized|assert|hashCode"
        + "|volatile|native|Throwable|Exception|NullPointerException|ArrayIndexOutOfBoundsException"
        + "|ClassCastException|NegativeArraySizeException|ArrayStoreException)\\b");

    private static final Pattern METHOD = Pattern.compile(
        "(?m)^( {4}| {8})(?=[a-zA-Z])[^;=]*?\\) ?[^;=]*?\\{\\n(?s:.*?)^\\1\\}");

    public static void main(String[] args) throws IOException {
        String source = Files.readString(SOURCE, StandardCharsets.US_ASCII);
        checkWords(source);
        checkLength(source);
        List<Class<?>> classes = new ArrayList<>(List.of(KnobMenu.class));
        classes.addAll(List.of(KnobMenu.class.getDeclaredClasses()));
        Check.isTrue("rule 11: some twelve classes", classes.size() <= 12);
        for (Class<?> type : classes) {
            checkLibrary(type);
            checkFields(type);
            checkMethods(type);
        }
        Check.end("LanguageTest");
    }

    /** Looks for words that the rules rule out, beside the comments; the others are seen in the compiled class. */
    private static void checkWords(String source) {
        String code = source.replaceAll("(?s)/\\*.*?\\*/|//[^\\n]*", "");
        Matcher banned = BANNED.matcher(code);
        Check.equal("a word outside of the rules", banned.find() ? banned.group() : "none", "none");
    }

    /** Rule 11: methods are short; each of them ends with a brace under its first sign. */
    private static void checkLength(String source) {
        Matcher body = METHOD.matcher(source);
        int methods = 0;
        while (body.find()) {
            methods++;
            Check.isTrue("rule 11: some sixty lines: " + body.group(), body.group().lines().count() <= 60);
        }
        Check.isTrue("methods are found", methods > 100);
    }

    private static void checkFields(Class<?> type) {
        long own = 0;
        for (Field field : type.getDeclaredFields()) {
            if (Modifier.isStatic(field.getModifiers())) {
                Check.isTrue("rule 5: static fields are final: " + field, Modifier.isFinal(field.getModifiers()));
            } else {
                own++;
            }
        }
        Check.isTrue("rule 11: some twenty fields: " + type, own <= 20);
    }

    private static void checkMethods(Class<?> type) {
        Set<String> face = new HashSet<>();
        for (Method method : KnobMenu.class.getDeclaredMethods()) {
            if (Modifier.isPublic(method.getModifiers())) {
                face.add(method.getName());
            }
        }
        boolean isInner = type != KnobMenu.class;
        Check.isTrue("rule 2: classes inside are static: " + type, !isInner || Modifier.isStatic(type.getModifiers()));
        for (Method method : type.getDeclaredMethods()) {
            boolean isPublic = Modifier.isPublic(method.getModifiers());
            Check.isTrue("rule 1: a name of the face: " + method, isPublic || !face.contains(method.getName()));
            Check.isFalse("rule 1: public inside: " + method, isPublic && isInner);
            checkParameters(method);
        }
        Arrays.stream(type.getDeclaredConstructors()).forEach(LanguageTest::checkParameters);
    }

    private static void checkParameters(Executable call) {
        Check.isTrue("rule 11: at most seven parameters: " + call, call.getParameterCount() <= 7);
    }

    private static void checkLibrary(Class<?> type) throws IOException {
        Set<String> used = new TreeSet<>(new ClassFile(type).calls());
        used.removeIf(call -> call.startsWith("KnobMenu") || LIBRARY.contains(call));
        Check.equal("rule 4: the library that " + type + " uses", used.toString(), "[]");
    }

    /** The part of a compiled class that tells which fields and methods it uses. */
    private static final class ClassFile {
        private final Object[] texts;
        private final int[][] pairs;
        private final List<Integer> members = new ArrayList<>();

        ClassFile(Class<?> type) throws IOException {
            try (InputStream bytes = type.getResourceAsStream("/" + type.getName() + ".class");
                DataInputStream in = new DataInputStream(bytes)) {
                in.skipNBytes(8);
                int size = in.readUnsignedShort();
                texts = new Object[size];
                pairs = new int[size][];
                for (int i = 1; i < size; i++) {
                    i += read(in, i);
                }
            }
        }

        /** Reads an entry; the answer is 1 for the entries that take two places, otherwise 0. */
        private int read(DataInputStream in, int index) throws IOException {
            int tag = in.readUnsignedByte();
            switch (tag) {
                case 1 -> texts[index] = in.readUTF();
                case 3, 4 -> in.skipNBytes(4);
                case 5, 6 -> in.skipNBytes(8);
                case 7, 8, 16 -> pairs[index] = new int[] {in.readUnsignedShort()};
                case 9, 10, 11, 12, 18 -> pairs[index] = new int[] {in.readUnsignedShort(), in.readUnsignedShort()};
                case 15 -> in.skipNBytes(3);
                default -> throw new IOException("unknown entry " + tag);
            }
            if (tag == 9 || tag == 10 || tag == 11) {
                members.add(index);
            }
            Check.isFalse("rules 2 and 10: a call that is made when it runs", tag == 18);
            return tag == 5 || tag == 6 ? 1 : 0;
        }

        /** The name of a class, or of a field or method that stands in a pair of its name and its type. */
        private Object text(int index) {
            return texts[pairs[index][0]];
        }

        List<String> calls() {
            return members.stream().map(i -> text(pairs[i][0]) + "." + text(pairs[i][1])).toList();
        }
    }
}
