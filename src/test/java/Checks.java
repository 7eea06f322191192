import java.nio.charset.StandardCharsets;

/** What all tests use: texts put in, answers compared, exceptions by their names. */
final class Checks {
    /** A call that may throw. */
    interface Call {
        int go();
    }

    private static int wrong = 0;
    private static int made = 0;

    private Checks() {
    }

    /** The bytes of up to eight characters, the first one highest. */
    static long pack(String characters) {
        long w = 0;
        for (byte b : characters.getBytes(StandardCharsets.ISO_8859_1)) {
            w = w << 8 | b & 255;
        }
        return w;
    }

    static void write(AlarmForge forge, String text) {
        for (int i = 0; i < text.length(); i += 8) {
            forge.text(pack(text.substring(i, Math.min(i + 8, text.length()))));
        }
    }

    /** An object with this TEXT, not parsed. */
    static AlarmForge written(String text) {
        AlarmForge forge = new AlarmForge();
        write(forge, text);
        return forge;
    }

    static AlarmForge parsed(String text) {
        AlarmForge forge = written(text);
        forge.parse();
        return forge;
    }

    static AlarmForge analysed(String text) {
        AlarmForge forge = parsed(text);
        forge.analyse();
        return forge;
    }

    static void same(String what, Object got, Object due) {
        made++;
        if (!due.equals(got)) {
            wrong++;
            System.out.println(what + ": answered " + got + ", due is " + due);
        }
    }

    /** A number, or the name of the exception without its end. */
    static String answer(Call call) {
        try {
            return Integer.toString(call.go());
        } catch (RuntimeException e) {
            return e.getClass().getSimpleName().replace("Exception", "");
        }
    }

    static void due(String what, Call call, int due) {
        same(what, answer(call), Integer.toString(due));
    }

    static void due(String what, Call call, String due) {
        same(what, answer(call), due);
    }

    /** What parse finds: how many STATEMENTS, or the place of the fault behind an at. */
    static String parseOf(String text) {
        AlarmForge forge = written(text);
        String answer = answer(forge::parse);
        return answer.equals("IllegalArgument") ? "at " + forge.where() : answer;
    }

    static void parses(String text, String due) {
        same("parse of " + text, parseOf(text), due);
    }

    /** All WARNINGS, each as its KIND, an at and its POINT. */
    static String warningsOf(AlarmForge forge) {
        StringBuilder all = new StringBuilder();
        int n = forge.count(4);
        for (int k = 0; k < n; k++) {
            int w = forge.warning(k);
            all.append(k == 0 ? "" : " ").append(w / 1024).append('@').append(w % 1024);
        }
        return all.toString();
    }

    static void warns(String text, String due) {
        same("warnings of " + text, warningsOf(analysed(text)), due);
    }

    /** What is left of a VARIABLE a to f, or of a CELL A0 to B3, as lo..hi m r. */
    static String valueOf(AlarmForge forge, String name) {
        int k = name.charAt(0) >= 'a' ? name.charAt(0) - 'a'
                : 10 + (name.charAt(0) - 'A') * 4 + name.charAt(1) - '0';
        String lo = answer(() -> forge.left(k, 0));
        if (lo.equals("UnsupportedOperation")) {
            return answer(() -> forge.left(k, 4)).equals(lo) ? "dead" : "nothing";
        }
        return lo + ".." + forge.left(k, 1) + " " + forge.left(k, 2) + " " + forge.left(k, 3);
    }

    static void leaves(String text, String name, String due) {
        same(name + " left of " + text, valueOf(analysed(text), name), due);
    }

    /** What a run answers, then its ran(0) as KIND at POINT if there is one. */
    static String runOf(AlarmForge forge, int limit) {
        String answer = answer(() -> forge.run(limit));
        int error = forge.ran(0);
        return error == 0 ? answer : answer + " " + error / 1024 + "@" + error % 1024;
    }

    static void runs(String text, String due) {
        same("run of " + text, runOf(parsed(text), 500), due);
    }

    static void end() {
        System.out.println(made + " checks, " + wrong + " wrong");
        if (wrong != 0 || made == 0) {
            System.exit(1);
        }
    }
}
