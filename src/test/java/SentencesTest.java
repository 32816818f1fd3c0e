import java.lang.reflect.InvocationTargetException;
import java.lang.reflect.Method;
import java.util.ArrayList;
import java.util.Arrays;
import java.util.Comparator;
import java.util.List;

/** Every sentence of the document has a test of its own here; all of them are run, and none is missing. */
final class SentencesTest {
    private static final List<Class<? extends Sentences>> ALL = List.of(
        TermsSays.class, CourtTermsSays.class, RowsSays.class, CourtsSays.class, MarksSays.class, DeedsSays.class,
        WaysSays.class, ClashesSays.class, TurnsSays.class, RulingsSays.class, LoopholesSays.class,
        ChancesSays.class, ToldSays.class);

    public static void main(String[] args) throws Exception {
        Due due = new Due("SentencesTest");
        DocText doc = new DocText();
        for (Class<? extends Sentences> group : ALL) {
            for (Method test : testsOf(group)) {
                Says says = test.getAnnotation(Says.class);
                for (String words : says.it()) {
                    due.is("the document says so in " + says.of() + ": " + words, doc.quote(says.of(), words) ? 1 : 0, 1);
                }
                run(group, test, due);
            }
        }
        for (String words : doc.notQuoted()) {
            due.is("a test for: " + words, 0, 1);
        }
        due.end();
    }

    private static List<Method> testsOf(Class<?> group) {
        List<Method> tests = new ArrayList<>(Arrays.asList(group.getDeclaredMethods()));
        tests.removeIf(m -> !m.isAnnotationPresent(Says.class));
        tests.sort(Comparator.comparingInt((Method m) -> m.getAnnotation(Says.class).of()).thenComparing(Method::getName));
        return tests;
    }

    private static void run(Class<? extends Sentences> group, Method test, Due due) throws Exception {
        Says says = test.getAnnotation(Says.class);
        String name = "promise " + says.of() + " '" + says.it()[0] + "' (" + group.getName() + "." + test.getName() + ")";
        Sentences sentences = group.getDeclaredConstructor().newInstance();
        Due own = due.partFor(name);
        sentences.lookWith(own);
        try {
            test.invoke(sentences);
        } catch (InvocationTargetException e) {
            own.is("no throw but " + e.getCause(), 1, 0);
        }
        own.is("answers were looked at", own.looked() > 0 ? 1 : 0, 1);
        due.add(own);
    }
}
