import java.io.IOException;
import java.lang.reflect.Method;
import java.nio.file.Files;
import java.nio.file.Path;
import java.util.List;
import java.util.Set;
import java.util.TreeSet;

/** The boundary tests quote the document to the letter, and leave none of its promises out. */
public final class SentencesTest {
    private static final List<Class<?>> TESTS = List.of(ItemsBoundaryTest.class, TurnBoundaryTest.class,
        PressBoundaryTest.class, TickBoundaryTest.class, LogPresetBoundaryTest.class, QueriesBoundaryTest.class,
        ForecastBoundaryTest.class, ActionTextBoundaryTest.class);

    public static void main(String[] args) throws IOException {
        String document = onOneLine(Files.readString(Path.of("../shared/DOC.md")));
        Set<Integer> tested = new TreeSet<>();
        for (Class<?> test : TESTS) {
            for (Method method : test.getDeclaredMethods()) {
                Sentence sentence = method.getAnnotation(Sentence.class);
                if (sentence != null) {
                    String says = sentence.says();
                    Check.isTrue("the document says: " + says, document.contains(onOneLine(says)));
                    for (int promise : sentence.promises()) {
                        tested.add(promise);
                    }
                }
            }
        }
        for (int promise = 1; promise <= 40; promise++) {
            Check.isTrue("promise " + promise + " is tested", tested.contains(promise));
        }
        Check.equal("promises that are tested", tested.size(), 40);
        Check.end("SentencesTest");
    }

    private static String onOneLine(String text) {
        return text.replaceAll("\\s+", " ");
    }
}
