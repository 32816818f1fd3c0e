import java.io.ByteArrayOutputStream;
import java.io.IOException;
import java.io.OutputStream;
import java.io.PrintStream;
import java.io.StringWriter;
import java.lang.reflect.Constructor;
import java.lang.reflect.Field;
import java.lang.reflect.Method;
import java.net.URI;
import java.nio.file.Files;
import java.nio.file.Path;
import java.util.ArrayList;
import java.util.HashMap;
import java.util.List;
import java.util.Map;
import java.util.TreeSet;
import java.util.concurrent.ConcurrentSkipListSet;
import java.util.concurrent.ExecutorService;
import java.util.concurrent.Executors;
import java.util.concurrent.Future;
import java.util.regex.Matcher;
import java.util.regex.Pattern;
import java.util.stream.Stream;
import javax.tools.FileObject;
import javax.tools.ForwardingJavaFileManager;
import javax.tools.JavaCompiler;
import javax.tools.JavaFileManager;
import javax.tools.JavaFileObject;
import javax.tools.SimpleJavaFileObject;
import javax.tools.ToolProvider;

/**
 * Whether SentencesTest would fail if the program were wrong: changes one thing in the program at a time,
 * and tells every change that no test of a sentence sees. Run by hand: java tools/Mutants.java
 * (some two minutes; no part of .ci/run, since changes that change no answer are told, too).
 */
final class Mutants {
    private static final Path PROGRAM = Path.of("src/main/java/NeitherBare.java");
    private static final Path TESTS = Path.of("src/test/java");
    private static final String BEGIN = "private static final int NOTHING";
    private static final long PATIENCE = 20_000;
    private static final JavaCompiler COMPILER = ToolProvider.getSystemJavaCompiler();
    /** What is changed, and into which. */
    private static final String[][] CHANGES = {
        {"<=", "<", "=="}, {">=", ">", "=="}, {" < ", " <= ", " > "}, {" > ", " >= ", " < "}, {"==", "!="}, {"!=", "=="},
        {"&&", "||"}, {"||", "&&"}, {" + ", " - "}, {" - ", " + "}, {"++", "--"}, {"--", "++"}, {" & ", " | "},
        {" | ", " & "}, {"|= ", "&= "}, {"&= ", "|= "}, {" * ", " + "}, {" / ", " * "}, {" % ", " / "},
        {"Math.max", "Math.min"}, {"Math.min", "Math.max"}, {"(!", "("}, {" !", " "},
        {"return BAD", "return STATE", "return 0"}, {"return STATE", "return BAD", "return FULL"},
        {"return FULL", "return STATE"}, {"return NONE", "return 0"}, {"return 0;", "return 1;"}, {"return 1;", "return 0;"},
        {"refuse(NOTHING)", "refuse(BEYOND)", "BAD"}, {"refuse(BEYOND)", "refuse(SIZE)", "BAD"},
        {"refuse(SIZE)", "refuse(UNLIKE)", "BAD"}, {"refuse(UNLIKE)", "refuse(SIZE)", "BAD"},
        {"refuse(NOUGHT)", "refuse(NOTHING)", "BAD"}, {"= NONE;", "= 0;"}, {": NONE", ": 0"}, {"true;", "false;"},
        {"false;", "true;"}, {"now.on", "-1", "0"}, {">>> ", ">> "}, {"1 << ", "2 << "}};

    private record Mutant(int line, String change, String source) { }

    public static void main(String[] args) throws Exception {
        PrintStream out = System.out;
        // The tests tell every wrong answer, and here there are many.
        System.setOut(new PrintStream(OutputStream.nullOutputStream()));
        String source = Files.readString(PROGRAM);
        Path classes = compiledTests();
        out.println("tests that fail without a change: " + failing(compiled(source), classes));
        List<Mutant> mutants = mutantsOf(source);
        out.println(mutants.size() + " changes; those that no test of a sentence sees:");
        ConcurrentSkipListSet<String> unseen = new ConcurrentSkipListSet<>();
        ExecutorService workers = Executors.newFixedThreadPool(Runtime.getRuntime().availableProcessors());
        List<Future<?>> all = new ArrayList<>();
        for (Mutant m : mutants) {
            all.add(workers.submit(() -> {
                Map<String, byte[]> program = compiled(m.source);
                if (program != null && failing(program, classes).isEmpty()) {
                    unseen.add(String.format("%5d %s", m.line, m.change));
                }
                return null;
            }));
        }
        for (Future<?> one : all) {
            one.get();
        }
        unseen.forEach(out::println);
        out.println(unseen.size() + " unseen");
        System.exit(0);
    }

    // ---- the changes

    private static List<Mutant> mutantsOf(String source) {
        boolean[] isText = new boolean[source.length()];
        Matcher text = Pattern.compile("/\\*.*?\\*/|//[^\n]*|\"[^\"\n]*\"", Pattern.DOTALL).matcher(source);
        while (text.find()) {
            for (int i = text.start(); i < text.end(); i++) {
                isText[i] = true;
            }
        }
        for (int i = 0; i < source.indexOf(BEGIN); i++) {
            isText[i] = true;
        }
        List<Mutant> mutants = new ArrayList<>();
        for (String[] change : CHANGES) {
            for (int at = source.indexOf(change[0]); at >= 0; at = source.indexOf(change[0], at + 1)) {
                for (int k = 1; k < change.length && !isText[at]; k++) {
                    mutants.add(mutant(source, at, at + change[0].length(), change[k]));
                }
            }
        }
        addByPattern(mutants, source, isText, "(?<![\\w.])\\d+(?![\\w.])", Mutants::othersOfNumber);
        addByPattern(mutants, source, isText, "(?<=if \\()[^\n]*(?=\\) \\{)", c -> List.of("true || (" + c + ")", "false && (" + c + ")"));
        addByPattern(mutants, source, isText,
            "(?m)(?<=^ {8,40})(?!return|if|for|break|continue|switch|case|default|int |long |boolean |Court )\\w[^\n{}]*;$", c -> List.of(";"));
        return mutants;
    }

    private static List<String> othersOfNumber(String number) {
        long n = Long.parseLong(number);
        return List.of(String.valueOf(n + 1), String.valueOf(n - 1));
    }

    private interface Others {
        List<String> of(String found);
    }

    private static void addByPattern(List<Mutant> mutants, String source, boolean[] isText, String pattern, Others others) {
        Matcher m = Pattern.compile(pattern).matcher(source);
        while (m.find()) {
            for (String other : isText[m.start()] ? List.<String>of() : others.of(m.group())) {
                mutants.add(mutant(source, m.start(), m.end(), other));
            }
        }
    }

    private static Mutant mutant(String source, int from, int to, String into) {
        int line = (int) source.substring(0, from).chars().filter(c -> c == '\n').count() + 1;
        String whole = source.substring(source.lastIndexOf('\n', from) + 1, source.indexOf('\n', from)).strip();
        String change = source.substring(from, to) + " -> " + into + "   in: " + whole;
        return new Mutant(line, change, source.substring(0, from) + into + source.substring(to));
    }

    // ---- compiling

    private static Path compiledTests() throws IOException {
        Path dir = Files.createTempDirectory("mutants");
        List<String> args = new ArrayList<>(List.of("-d", dir.toString(), PROGRAM.toString()));
        try (Stream<Path> files = Files.list(TESTS)) {
            files.map(Path::toString).filter(f -> f.endsWith(".java")).forEach(args::add);
        }
        if (COMPILER.run(null, null, null, args.toArray(new String[0])) != 0) {
            throw new IllegalStateException("the tests do not compile");
        }
        return dir;
    }

    /** The classes of a program by their names, or null if it does not compile. */
    private static Map<String, byte[]> compiled(String source) {
        Map<String, ByteArrayOutputStream> written = new HashMap<>();
        JavaFileManager files = new ForwardingJavaFileManager<>(COMPILER.getStandardFileManager(d -> { }, null, null)) {
            @Override
            public JavaFileObject getJavaFileForOutput(Location l, String name, JavaFileObject.Kind kind, FileObject sibling) {
                return new SimpleJavaFileObject(URI.create("mem:///" + name), kind) {
                    @Override
                    public OutputStream openOutputStream() {
                        return written.computeIfAbsent(name, n -> new ByteArrayOutputStream());
                    }
                };
            }
        };
        JavaFileObject file = new SimpleJavaFileObject(URI.create("mem:///NeitherBare.java"), JavaFileObject.Kind.SOURCE) {
            @Override
            public CharSequence getCharContent(boolean ignoreErrors) {
                return source;
            }
        };
        boolean isGood = COMPILER.getTask(new StringWriter(), files, d -> { }, List.of("-proc:none"), null, List.of(file)).call();
        Map<String, byte[]> classes = new HashMap<>();
        written.forEach((name, bytes) -> classes.put(name, bytes.toByteArray()));
        return isGood ? classes : null;
    }

    // ---- running

    /** The changed program, and the tests as they are. */
    private static final class Loader extends ClassLoader {
        private final Map<String, byte[]> program;
        private final Path tests;

        Loader(Map<String, byte[]> program, Path tests) {
            super(ClassLoader.getPlatformClassLoader());
            this.program = program;
            this.tests = tests;
        }

        @Override
        protected Class<?> findClass(String name) throws ClassNotFoundException {
            try {
                byte[] bytes = program.containsKey(name) ? program.get(name) : Files.readAllBytes(tests.resolve(name + ".class"));
                return defineClass(name, bytes, 0, bytes.length);
            } catch (IOException e) {
                throw new ClassNotFoundException(name, e);
            }
        }
    }

    @SuppressWarnings("deprecation")
    private static TreeSet<String> failing(Map<String, byte[]> program, Path classes) throws InterruptedException {
        ConcurrentSkipListSet<String> failing = new ConcurrentSkipListSet<>();
        Thread runner = new Thread(() -> {
            try {
                runAll(new Loader(program, classes), failing);
            } catch (Exception | Error e) {
                failing.add(e.toString());
            }
        });
        runner.setDaemon(true);
        runner.start();
        runner.join(PATIENCE);
        if (runner.isAlive()) {
            failing.add("without an end");
            runner.stop();
        }
        return new TreeSet<>(failing);
    }

    private static void runAll(Loader loader, ConcurrentSkipListSet<String> failing) throws Exception {
        Class<?> main = loader.loadClass("SentencesTest");
        Class<?> due = loader.loadClass("Due");
        Constructor<?> newDue = due.getDeclaredConstructor(String.class);
        Field groups = main.getDeclaredField("ALL");
        Field wrong = due.getDeclaredField("wrong");
        Method testsOf = main.getDeclaredMethod("testsOf", Class.class);
        Method run = main.getDeclaredMethod("run", Class.class, Method.class, due);
        newDue.setAccessible(true);
        groups.setAccessible(true);
        wrong.setAccessible(true);
        testsOf.setAccessible(true);
        run.setAccessible(true);
        for (Object group : (List<?>) groups.get(null)) {
            for (Object test : (List<?>) testsOf.invoke(null, group)) {
                Object answers = newDue.newInstance("mutant");
                run.invoke(null, group, test, answers);
                if (wrong.getInt(answers) > 0) {
                    failing.add(((Class<?>) group).getName() + "." + ((Method) test).getName());
                }
            }
        }
    }
}
