import java.io.IOException;
import java.io.UncheckedIOException;
import java.nio.charset.StandardCharsets;
import java.nio.file.Files;
import java.nio.file.Path;

/** What all tests use: texts put in, answers compared, exceptions by their names. */
final class Checks {
    /** A call that may throw. */
    interface Call {
        int go();
    }

    /** A call on some object. */
    interface Use {
        int on(AlarmForge forge);
    }

    /** Makes an object with some calls behind it. */
    interface Maker {
        AlarmForge make();
    }

    static final int LEAST = Integer.MIN_VALUE;
    static final int MOST = Integer.MAX_VALUE;
    static final String ALL = "-2147483648..2147483647 1 0";
    // NUMERALS have nine digits at most, so the ends of ints are written as sums.
    static final String LEAST_INT = "(-999999999-999999999-147483650)";
    static final String MOST_INT = "(999999999+999999999+147483649)";
    private static final String[] EXCEPTIONS = {"", "IllegalState", "IndexOutOfBounds", "Arithmetic",
        "Arithmetic", "UnsupportedOperation"};

    // Empty where the document is not at hand; then its words are not looked up.
    private static final String DOCUMENT = wordsOf(Path.of("../shared/DOC.md"));

    private static int wrong = 0;
    private static int made = 0;
    private static String sentence = "";
    private static int madeBefore = 0;

    private Checks() {
    }

    /** The words of the document that the checks from here on are for. */
    static void sentence(String words) {
        endSentence();
        sentence = words;
        if (!DOCUMENT.isEmpty()) {
            same("words of the document", DOCUMENT.contains(words), true);
        }
        madeBefore = made;
    }

    /** A file's words with one blank between them, however it breaks its lines. */
    private static String wordsOf(Path file) {
        try {
            return Files.exists(file) ? Files.readString(file).replaceAll("\\s+", " ") : "";
        } catch (IOException e) {
            throw new UncheckedIOException(e);
        }
    }

    private static void endSentence() {
        if (!sentence.isEmpty() && made == madeBefore) {
            wrong++;
            System.out.println("no check for: " + sentence);
        }
    }

    /** The bytes of up to eight characters, the first one highest. */
    static long pack(String characters) {
        long w = 0;
        for (byte b : characters.getBytes(StandardCharsets.ISO_8859_1)) {
            w = w << 8 | b & 255;
        }
        return w;
    }

    static void write(AlarmForge forge, String text) {
        for (int i = 0; i < text.length(); i += 8) {
            forge.text(pack(text.substring(i, Math.min(i + 8, text.length()))));
        }
    }

    /** An object with this TEXT, not parsed. */
    static AlarmForge written(String text) {
        AlarmForge forge = new AlarmForge();
        write(forge, text);
        return forge;
    }

    static AlarmForge parsed(String text) {
        AlarmForge forge = written(text);
        forge.parse();
        return forge;
    }

    static AlarmForge analysed(String text) {
        AlarmForge forge = parsed(text);
        forge.analyse();
        return forge;
    }

    static void same(String what, Object got, Object due) {
        made++;
        if (!due.equals(got)) {
            wrong++;
            System.out.println(what + ": answered " + got + ", due is " + due
                + (sentence.isEmpty() ? "" : " by: " + sentence));
        }
    }

    /** A number, or the name of the exception without its end. */
    static String answer(Call call) {
        try {
            return Integer.toString(call.go());
        } catch (RuntimeException e) {
            return e.getClass().getSimpleName().replace("Exception", "");
        }
    }

    static void due(String what, Call call, int due) {
        same(what, answer(call), Integer.toString(due));
    }

    static void due(String what, Call call, String due) {
        same(what, answer(call), due);
    }

    /** What parse finds: how many STATEMENTS, or the place of the fault behind an at. */
    static String parseOf(String text) {
        AlarmForge forge = written(text);
        String answer = answer(forge::parse);
        return answer.equals("IllegalArgument") ? "at " + forge.where() : answer;
    }

    static void parses(String text, String due) {
        same("parse of " + text, parseOf(text), due);
    }

    /** All WARNINGS, each as its KIND, an at and its POINT. */
    static String warningsOf(AlarmForge forge) {
        StringBuilder all = new StringBuilder();
        int n = forge.count(4);
        for (int k = 0; k < n; k++) {
            int w = forge.warning(k);
            all.append(k == 0 ? "" : " ").append(w / 1024).append('@').append(w % 1024);
        }
        return all.toString();
    }

    static void warns(String text, String due) {
        same("warnings of " + text, warningsOf(analysed(text)), due);
    }

    /** What is left of a VARIABLE a to f, or of a CELL A0 to B3, as lo..hi m r. */
    static String valueOf(AlarmForge forge, String name) {
        int k = name.charAt(0) >= 'a' ? name.charAt(0) - 'a'
                : 10 + (name.charAt(0) - 'A') * 4 + name.charAt(1) - '0';
        String lo = answer(() -> forge.left(k, 0));
        if (lo.equals("UnsupportedOperation")) {
            return answer(() -> forge.left(k, 4)).equals(lo) ? "dead" : "nothing";
        }
        return lo + ".." + forge.left(k, 1) + " " + forge.left(k, 2) + " " + forge.left(k, 3);
    }

    static void leaves(String text, String name, String due) {
        same(name + " left of " + text, valueOf(analysed(text), name), due);
    }

    /** What a run answers, then its ran(0) as KIND at POINT if there is one. */
    static String runOf(AlarmForge forge, int limit) {
        String answer = answer(() -> forge.run(limit));
        int error = forge.ran(0);
        return error == 0 ? answer : answer + " " + error / 1024 + "@" + error % 1024;
    }

    static void runs(String text, String due) {
        same("run of " + text, runOf(parsed(text), 500), due);
    }

    /** A run of a text with inputs: ends well, or with the one error that is marked. */
    static void runsAsMarked(String marked, int... inputs) {
        AlarmForge forge = parsed(plainOf(marked));
        for (int v : inputs) {
            forge.input(v);
        }
        String marks = marksOf(marked);
        String due = marks.isEmpty() ? "0" : EXCEPTIONS[marks.charAt(0) - '0'] + " " + marks;
        same("run of " + marked, runOf(forge, 500), due);
    }

    /** All that is warned of is marked. */
    static void warnsAsMarked(String marked) {
        same("warnings of " + marked, warningsOf(analysed(plainOf(marked))), marksOf(marked));
    }

    /** A text that is no PROGRAM from the mark ^ on. */
    static void faultAtMark(String marked) {
        parses(marked.replace("^", ""), "at " + marked.indexOf('^'));
    }

    /** A text without its marks: a ^ and a KIND in front of each POINT. */
    static String plainOf(String marked) {
        return marked.replaceAll("\\^[1-5]", "");
    }

    private static String marksOf(String marked) {
        StringBuilder all = new StringBuilder();
        int place = 0;
        for (int i = 0; i < marked.length(); i++) {
            if (marked.charAt(i) == '^') {
                i++;
                all.append(all.length() == 0 ? "" : " ").append(marked.charAt(i)).append('@').append(place);
            } else {
                place++;
            }
        }
        return all.toString();
    }

    /** A VARIABLE with the ints from lo to hi. */
    static String range(char name, int lo, int hi) {
        return name + "=in;if(" + name + "<" + lo + "){" + name + "=" + lo + ";}if(" + hi + "<" + name + "){"
            + name + "=" + hi + ";}";
    }

    /** A VARIABLE with all of -n to n times m, and r more. */
    static String rests(char name, int n, int m, int r) {
        return name + "=in;" + name + "=" + name + "%" + (n + 1) + "*" + m + "+" + r + ";";
    }

    /** A call that throws this, and leaves all as it is in an object that never had the call. */
    static void refused(String what, Maker maker, Use call, String exception) {
        AlarmForge called = maker.make();
        due(what, () -> call.on(called), exception);
        same("behind " + what, lookAtAll(called), lookAtAll(maker.make()));
    }

    /** All answers of an object, then those behind its runs, goings through and parses. */
    static String lookAtAll(AlarmForge forge) {
        StringBuilder all = new StringBuilder();
        look(all, "where", forge::where);
        for (int what = 0; what <= 6; what++) {
            int w = what;
            look(all, "count " + w, () -> forge.count(w));
        }
        lookAtRun(all, forge);
        lookAtEnd(all, forge);
        look(all, "run", () -> forge.run(500));
        lookAtRun(all, forge);
        look(all, "analyse", forge::analyse);
        lookAtEnd(all, forge);
        look(all, "parse", forge::parse);
        look(all, "where", forge::where);
        look(all, "run", () -> forge.run(500));
        lookAtRun(all, forge);
        look(all, "input", () -> forge.input(3));
        return all.toString();
    }

    private static void lookAtRun(StringBuilder all, AlarmForge forge) {
        for (int what = 0; what <= 35; what++) {
            int w = what;
            if (w <= 2 || w >= 10 && w <= 15 || w >= 20 && w <= 27 || w >= 30) {
                look(all, "ran " + w, () -> forge.ran(w));
            }
        }
    }

    private static void lookAtEnd(StringBuilder all, AlarmForge forge) {
        for (int k = forge.count(4) - 1; k >= 0; k--) {
            int n = k;
            look(all, "warning " + n, () -> forge.warning(n));
        }
        for (int k = 0; k <= 17; k++) {
            for (int what = 0; what <= 4 && (k <= 5 || k >= 10); what++) {
                int n = k;
                int w = what;
                look(all, "left " + n + " " + w, () -> forge.left(n, w));
            }
        }
    }

    private static void look(StringBuilder all, String what, Call call) {
        all.append(what).append(": ").append(answer(call)).append("; ");
    }

    static void end() {
        endSentence();
        System.out.println(made + " checks, " + wrong + " wrong");
        if (wrong != 0 || made == 0) {
            System.exit(1);
        }
    }
}
