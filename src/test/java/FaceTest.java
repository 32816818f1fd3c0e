import java.lang.reflect.Constructor;
import java.lang.reflect.Field;
import java.lang.reflect.Method;
import java.lang.reflect.Modifier;
import java.nio.file.Files;
import java.nio.file.Path;
import java.util.Set;
import java.util.TreeSet;
import java.util.regex.Matcher;
import java.util.regex.Pattern;

/** The public face of the document, and the rules of LANGUAGE.md that can be seen from outside. */
final class FaceTest {
    private static final Path SOURCE = Path.of("src/main/java/NeitherBare.java");
    private static final String[] FACE = {
        "int row(2)", "int lay(3)", "int at(2)", "int tear(1)", "int copy(5)", "int mean(1)", "int text(2)",
        "int put(3)", "int fault(1)", "int court(1)", "int thing(2)", "int clause(2)", "int mark(2)",
        "int border(2)", "int strike(2)", "int move(3)", "int undo(1)", "int keep(1)", "int on(1)",
        "int value(2)", "int cost(1)", "int holds(1)", "int good(0)", "int cheapest(0)", "int fewest(0)",
        "int nearest(0)", "int tight(1)", "int clash(1)", "int two(0)", "int least(0)", "int relent(0)",
        "int game(1)", "int names(1)", "int contradict(1)", "int fix(1)", "int follows(3)", "int borders(2)",
        "int worth(1)", "int falls(3)", "int kinds(2)", "int judged(2)", "int odds(2)", "int luck(0)",
        "int lots(2)", "int asked(0)", "long upper(0)", "long lower(0)", "int count(1)", "int finding(0)",
        "int findings(1)", "long digest(0)"};
    private static final Due due = new Due("FaceTest");

    public static void main(String[] args) throws Exception {
        faceIsTheDocuments();
        fieldsAreKept();
        noPrivateMethodBearsAPublicName();
        wordsThatTheRulesRuleOut();
        due.end();
    }

    private static void faceIsTheDocuments() {
        Set<String> want = new TreeSet<>(Set.of(FACE));
        Set<String> got = new TreeSet<>();
        for (Method m : NeitherBare.class.getDeclaredMethods()) {
            if (!Modifier.isPrivate(m.getModifiers()) && !m.isSynthetic()) {
                got.add(m.getReturnType() + " " + m.getName() + "(" + m.getParameterCount() + ")");
                boolean plain = m.getModifiers() == Modifier.PUBLIC;
                due.is("public alone: " + m.getName(), plain ? 1 : 0, 1);
                for (Class<?> type : m.getParameterTypes()) {
                    due.is("int of " + m.getName(), type == int.class ? 1 : 0, 1);
                }
            }
        }
        due.is("methods " + got, got.equals(want) ? 1 : 0, 1);
        Constructor<?>[] made = NeitherBare.class.getDeclaredConstructors();
        due.is("constructors", made.length, 1);
        due.is("a public one of none", Modifier.isPublic(made[0].getModifiers()) ? made[0].getParameterCount() : -1, 0);
        int is = NeitherBare.class.getModifiers();
        due.is("public final", Modifier.isPublic(is) && Modifier.isFinal(is) ? 1 : 0, 1);
    }

    private static void fieldsAreKept() {
        Set<String> open = new TreeSet<>();
        for (Field f : NeitherBare.class.getDeclaredFields()) {
            if (!Modifier.isPrivate(f.getModifiers()) && !f.isSynthetic()) {
                open.add(f.getName());
            }
            boolean isStatic = Modifier.isStatic(f.getModifiers());
            due.is("static is final: " + f.getName(), isStatic && !Modifier.isFinal(f.getModifiers()) ? 1 : 0, 0);
        }
        Set<String> want = Set.of("BAD", "FULL", "FINDING", "STATE", "SPENT", "NONE");
        due.is("fields " + open, open.equals(new TreeSet<>(want)) ? 1 : 0, 1);
        for (Class<?> inside : NeitherBare.class.getDeclaredClasses()) {
            due.is("static: " + inside, Modifier.isStatic(inside.getModifiers()) ? 1 : 0, 1);
        }
    }

    private static void noPrivateMethodBearsAPublicName() {
        Set<String> names = new TreeSet<>();
        for (String one : FACE) {
            names.add(one.substring(one.indexOf(' ') + 1, one.indexOf('(')));
        }
        for (Class<?> inside : NeitherBare.class.getDeclaredClasses()) {
            for (Method m : inside.getDeclaredMethods()) {
                due.is("name " + m.getName(), names.contains(m.getName()) ? 1 : 0, 0);
            }
        }
        for (Method m : NeitherBare.class.getDeclaredMethods()) {
            boolean both = Modifier.isPrivate(m.getModifiers()) && names.contains(m.getName());
            due.is("name " + m.getName(), both ? 1 : 0, 0);
        }
    }

    private static void wordsThatTheRulesRuleOut() throws Exception {
        String code = Files.readString(SOURCE).replaceAll("(?s)/\\*.*?\\*/", "").replaceAll("//[^\n]*", "");
        String[] words = {"throw", "throws", "try", "catch", "finally", "synchronized", "assert", "package",
            "Exact", "Random", "System\\.(?!arraycopy)", "Thread", "->", "::", "@", "import (?!java\\.util\\.Arrays;)"};
        for (String word : words) {
            String asWord = Character.isLetter(word.charAt(0)) && !word.equals("Exact") ? "\\b" + word : word;
            boolean isEnd = Character.isLetter(word.charAt(word.length() - 1));
            Matcher m = Pattern.compile(asWord + (isEnd ? "\\b" : "")).matcher(code);
            due.is("the word " + word, m.find() ? 1 : 0, 0);
        }
        due.is("signs above 127", code.chars().filter(c -> c > 127).count(), 0);
    }
}
