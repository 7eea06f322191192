import java.io.File;
import java.io.IOException;
import java.lang.reflect.Method;
import java.lang.reflect.Modifier;
import java.nio.file.Files;
import java.nio.file.Path;
import java.util.ArrayList;
import java.util.List;
import java.util.Set;
import java.util.TreeSet;
import java.util.function.IntConsumer;
import java.util.regex.Matcher;
import java.util.regex.Pattern;

/** What README.md shows of the class is so: its examples, its tables, the names in it. */
public final class ReadmeTest {
    private static final Path README = Path.of("README.md");
    // An example's line: a call, and behind // its answer, with words behind a colon or none.
    private static final Pattern SHOWN = Pattern.compile("forge\\.(\\w+)\\((.*)\\); +// ([^:]+)(:.*)?");
    private static final Pattern CODE = Pattern.compile("`([^`]+)`");

    private final List<String> lines;
    // What examples show: names of calls, each with its what or k, each with an exception.
    private final Set<String> called = new TreeSet<>();
    private final Set<String> asked = new TreeSet<>();
    private final Set<String> thrown = new TreeSet<>();

    private ReadmeTest(List<String> lines) {
        this.lines = lines;
    }

    public static void main(String[] args) throws IOException, InterruptedException,
            ReflectiveOperationException {
        ReadmeTest test = new ReadmeTest(Files.readAllLines(README));
        test.runExamples();
        test.compareKinds();
        test.compareCalls();
        test.compareNumbers();
        test.compareClasses();
        test.lookForNames();
        Checks.end();
    }

    private void runExamples() throws IOException, InterruptedException, ReflectiveOperationException {
        String name = "ReadmeExamples";
        // Beside the other classes, for they may use one another only if loaded from there.
        String classes = System.getProperty("java.class.path").split(File.pathSeparator)[0];
        Path source = Path.of(classes, name + ".java");
        Files.writeString(source, sourceOf(name));
        int failed = new ProcessBuilder("javac", "-cp", classes, "-d", classes, source.toString())
            .inheritIO().start().waitFor();
        Checks.same("examples of README.md compile", failed, 0);
        if (failed == 0) {
            Class.forName(name).getDeclaredMethod("all").invoke(null);
        }
    }

    /** A class with each block of README.md in it, as a method of its own or as it stands. */
    private String sourceOf(String name) {
        StringBuilder members = new StringBuilder("final class " + name + " {\n");
        StringBuilder all = new StringBuilder("static void all() {\n");
        int blocks = 0;
        for (int i = 0; i < lines.size(); i++) {
            if (lines.get(i).equals("```java")) {
                blocks++;
                int end = i + 1 + lines.subList(i + 1, lines.size()).indexOf("```");
                boolean isMember = lines.get(i + 1).startsWith("static ");
                members.append(isMember ? "" : "static void block" + blocks + "() {\n");
                all.append(isMember ? "" : "block" + blocks + "();\n");
                for (i++; i < end; i++) {
                    members.append(isMember ? lines.get(i) : checkOf(i)).append('\n');
                }
                members.append(isMember ? "" : "}\n");
            }
        }
        Checks.same("README.md has examples", blocks > 1, true);
        return members.append(all).append("}\n}\n").toString();
    }

    /** A line of an example, turned into a check where it begins with a call. */
    private String checkOf(int i) {
        String line = lines.get(i);
        // What is indented goes on in a loop, so it has no one answer to name.
        if (!line.startsWith("forge.") && !line.contains("//")) {
            return line;
        }
        Matcher shown = SHOWN.matcher(line);
        String what = "README.md, line " + (i + 1) + ", " + line.replaceAll(";.*", "");
        if (!shown.matches()) {
            Checks.same(what, line, "a call with its answer behind //");
            return "";
        }
        String name = shown.group(1);
        String due = shown.group(3);
        called.add(name);
        if (due.startsWith("throws ")) {
            String exception = due.substring(7);
            thrown.add(name + " " + exception);
            due = "\"" + exception.replace("Exception", "") + "\"";
        } else {
            asked.add(name + " " + shown.group(2).replaceAll(name.equals("left") ? ".*, " : ", .*", ""));
        }
        return "Checks.due(\"" + what + "\", () -> forge." + name + "(" + shown.group(2) + "), " + due + ");";
    }

    /** The cells of each row of the table whose head begins so. */
    private List<String[]> rowsBelow(String head) {
        List<String[]> rows = new ArrayList<>();
        int at = 0;
        while (at < lines.size() && !lines.get(at).startsWith("| " + head + " |")) {
            at++;
        }
        for (at += 2; at < lines.size() && lines.get(at).startsWith("|"); at++) {
            String row = lines.get(at);
            rows.add(row.substring(1, row.length() - 1).trim().split(" *\\| *", -1));
        }
        Checks.same("README.md has a table of " + head, rows.isEmpty(), false);
        return rows;
    }

    private static List<String> codesIn(String words) {
        List<String> codes = new ArrayList<>();
        Matcher code = CODE.matcher(words);
        while (code.find()) {
            codes.add(code.group(1));
        }
        return codes;
    }

    /** Each KIND's text has just that error in a run, and just that WARNING. */
    private void compareKinds() {
        Set<String> kinds = new TreeSet<>();
        for (String[] row : rowsBelow("KIND")) {
            kinds.add(row[0]);
            String exception = codesIn(row[3]).get(0);
            thrown.add("run " + exception);
            AlarmForge forge = Checks.analysed(codesIn(row[4]).get(0));
            String error = row[0] + "@" + row[5];
            Checks.same("README.md: run for " + row[1], Checks.runOf(forge, 500),
                exception.replace("Exception", "") + " " + error);
            Checks.same("README.md: warnings for " + row[1], Checks.warningsOf(forge), error);
        }
        Checks.same("README.md: KINDS", kinds, Set.of("1", "2", "3", "4", "5"));
    }

    /** The table of calls is the face of the class, and each exception in it is shown. */
    private void compareCalls() {
        Set<String> told = new TreeSet<>();
        for (String[] row : rowsBelow("Call")) {
            String call = codesIn(row[0]).get(0);
            String name = call.replaceAll("\\(.*", "");
            Checks.same("README.md shows a call of " + name, called.contains(name), true);
            for (String exception : codesIn(row[2])) {
                Checks.same("README.md shows " + name + " throwing " + exception,
                    thrown.contains(name + " " + exception), true);
            }
            // Of each parameter the type alone, for names are not kept in classes.
            told.add(call.replaceAll("(\\w+) \\w+", "$1") + " " + new TreeSet<>(codesIn(row[2])));
        }
        Checks.same("README.md: all calls", told, face());
    }

    private static Set<String> face() {
        Set<String> face = new TreeSet<>();
        for (Method method : AlarmForge.class.getDeclaredMethods()) {
            if (Modifier.isPublic(method.getModifiers())) {
                List<String> types = new ArrayList<>();
                for (Class<?> type : method.getParameterTypes()) {
                    types.add(type.getName());
                }
                Set<String> exceptions = new TreeSet<>();
                for (Class<?> exception : method.getExceptionTypes()) {
                    exceptions.add(exception.getSimpleName());
                }
                face.add(method.getName() + "(" + String.join(", ", types) + ") " + exceptions);
            }
        }
        return face;
    }

    /** The numbers in the table are those that the calls take. */
    private void compareNumbers() {
        AlarmForge forge = Checks.analysed("a=1;");
        Checks.same("README.md: choose", told("choose"), taken(n -> forge.choose(n, 1)));
        Checks.same("README.md: ran", told("ran"), taken(forge::ran));
        Checks.same("README.md: left", told("left"), taken(n -> forge.left(0, n)));
        Checks.same("README.md: count", told("count"), taken(forge::count));
    }

    private Set<Integer> told(String name) {
        Set<Integer> numbers = new TreeSet<>();
        for (String[] row : rowsBelow("With this `what`")) {
            List<String> calls = codesIn(row[0]);
            if (calls.get(0).startsWith(name + "(")) {
                boolean isShown = false;
                int last = numberIn(calls.get(calls.size() - 1));
                for (int n = numberIn(calls.get(0)); n <= last; n++) {
                    Checks.same("README.md tells of " + name + " " + n + " once", numbers.add(n), true);
                    isShown = isShown || asked.contains(name + " " + n);
                }
                Checks.same("README.md shows " + row[0], isShown, true);
            }
        }
        return numbers;
    }

    private static int numberIn(String call) {
        return Integer.parseInt(call.replaceAll("\\D", ""));
    }

    private static Set<Integer> taken(IntConsumer call) {
        Set<Integer> numbers = new TreeSet<>();
        for (int n = -50; n <= 100; n++) {
            try {
                call.accept(n);
                numbers.add(n);
            } catch (IllegalArgumentException e) {
                // Then it is none of them.
            }
        }
        return numbers;
    }

    /** How it is built names the classes inside, all of them and no others. */
    private void compareClasses() {
        Set<String> inside = new TreeSet<>();
        for (Class<?> type : AlarmForge.class.getDeclaredClasses()) {
            inside.add(type.getSimpleName());
        }
        int from = lines.indexOf("## How it is built");
        Set<String> told = new TreeSet<>(codesIn(String.join(" ", lines.subList(from + 1, lines.size()))));
        Checks.same("README.md: classes inside", told, inside);
    }

    /** Paths, tests and their helpers that are named are there. */
    private void lookForNames() {
        Set<String> helpers = new TreeSet<>();
        for (Method method : Checks.class.getDeclaredMethods()) {
            helpers.add("Checks." + method.getName());
        }
        for (String line : lines) {
            for (String code : codesIn(line)) {
                if (code.matches("\\w+/[\\w./]+")) {
                    Checks.same(code, Files.exists(Path.of(code)), true);
                } else if (code.matches("\\w+Test")) {
                    Checks.same(code, Files.exists(Path.of("src/test/java", code + ".java")), true);
                } else if (code.startsWith("Checks.")) {
                    Checks.same(code, helpers.contains(code), true);
                }
            }
        }
        Checks.same(".ci/run can be run", lines.contains("    .ci/run") && Files.isExecutable(Path.of(".ci/run")),
            true);
    }
}
