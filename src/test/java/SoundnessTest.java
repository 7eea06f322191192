/** Promises 11 and 13: in runs of many small programs nothing happens that is not foreseen. */
public final class SoundnessTest {
    private static final String[] NUMBERS = {"0", "1", "2", "3", "4", "5", "7", "8", "10", "12", "16", "99",
        "100", "65536", "46341", "999999999"};
    private static final int[] INPUTS = {0, 1, 2, 3, -1, -2, 5, 9, -10, 100, Integer.MIN_VALUE, Integer.MAX_VALUE};

    private long seed;

    private SoundnessTest(long seed) {
        this.seed = seed;
    }

    public static void main(String[] args) {
        Checks.sentence("what it does not warn of can not happen.");
        int alive = 0;
        int failing = 0;
        int whole = 0;
        for (int n = 1; n <= 5000; n++) {
            SoundnessTest test = new SoundnessTest(n * 7919L);
            String text = test.program();
            AlarmForge forge = Checks.written(text);
            if (Checks.answer(forge::parse).equals("IllegalArgument")) {
                Checks.same("a program", text, "parsed");
                continue;
            }
            forge.choose(0, test.below(6));
            forge.choose(1, test.below(6));
            forge.analyse();
            alive += Checks.valueOf(forge, "A0").equals("dead") ? 0 : 1;
            for (int run = 0; run < 4; run++) {
                forge.forget();
                for (int i = 0; i < 8; i++) {
                    forge.input(INPUTS[test.below(INPUTS.length)]);
                }
                String answer = Checks.answer(() -> forge.run(500));
                failing += forge.ran(0) == 0 ? 0 : 1;
                whole += answer.equals("0") ? 1 : 0;
                check(forge, text, answer);
            }
        }
        Checks.same("enough of all: " + alive + " " + failing + " " + whole,
            alive > 800 && failing > 2000 && whole > 2000, true);
        valuesAreTight();
        Checks.end();
    }

    private static void check(AlarmForge forge, String text, String answer) {
        int error = forge.ran(0);
        if (error != 0) {
            Checks.same("warned of " + error + " in " + text, isWarned(forge, error), true);
        } else if (answer.equals("0")) {
            Checks.same("what is left of " + text, isLeft(forge), true);
        }
    }

    private static boolean isWarned(AlarmForge forge, int error) {
        for (int k = 0; k < forge.count(4); k++) {
            if (forge.warning(k) == error) {
                return true;
            }
        }
        return false;
    }

    private static boolean isLeft(AlarmForge forge) {
        for (int k = 0; k < 6; k++) {
            boolean fits = forge.ran(30 + k) == 1 ? !Checks.answer(() -> forge.left(0, 4)).startsWith("U")
                && forge.left(k, 4) == 1 : isOne(forge, k, forge.ran(10 + k));
            if (!fits) {
                return false;
            }
        }
        for (int k = 0; k < 8; k++) {
            if (!isOne(forge, 10 + k, forge.ran(20 + k))) {
                return false;
            }
        }
        return true;
    }

    private static boolean isOne(AlarmForge forge, int k, int n) {
        if (Checks.answer(() -> forge.left(k, 0)).startsWith("U")) {
            return false;
        }
        int m = forge.left(k, 2);
        return forge.left(k, 0) <= n && n <= forge.left(k, 1)
            && (m == 0 ? n : Math.floorMod(n, m)) == forge.left(k, 3);
    }

    private static void valuesAreTight() {
        Checks.sentence("a VALUE is NOTHING, or lo..hi (ints, lo not above hi) with m and r: all of these ints that"
            + " leave r when divided by m (m 1 to 65536, r 0 to m - 1), or, with m 0, r alone.");
        for (int n = 1; n <= 3000; n++) {
            SoundnessTest test = new SoundnessTest(n * 104729L);
            String text = test.program();
            AlarmForge forge = Checks.parsed(text);
            forge.choose(0, test.below(6));
            forge.choose(1, test.below(6));
            forge.analyse();
            for (int k = 0; k <= 17; k++) {
                int place = k;
                if ((k <= 5 || k >= 10) && !Checks.answer(() -> forge.left(place, 0)).startsWith("U")) {
                    Checks.same("VALUE " + k + " left of " + text, isTight(forge, k), true);
                }
            }
        }
    }

    private static boolean isTight(AlarmForge forge, int k) {
        int lo = forge.left(k, 0);
        int hi = forge.left(k, 1);
        int m = forge.left(k, 2);
        int r = forge.left(k, 3);
        if (m == 0) {
            return lo == r && hi == r;
        }
        return lo < hi && m >= 1 && m <= 65536 && Math.floorMod(lo, m) == r && Math.floorMod(hi, m) == r;
    }

    private int below(int n) {
        seed = seed * 6364136223846793005L + 1442695040888963407L;
        return (int) ((seed >>> 33) % n);
    }

    private String one(String... of) {
        return of[below(of.length)];
    }

    private String variable() {
        return one("a", "b", "c");
    }

    private String expr() {
        String v = variable();
        String n = one(NUMBERS);
        return one(v, n, v + "+" + n, v + "-" + n, v + "*" + n, v + "/" + n, v + "%" + n, "-" + v,
            v + "+" + variable(), v + "-" + variable(), v + "*" + variable(), v + "/" + variable(),
            v + "%" + variable(), "A[" + v + "]", "B[" + v + "%4]", "(" + v + "+1)*" + n, "A[2]+B[" + n + "]");
    }

    private String cond() {
        return "(" + one(variable(), variable(), "(" + variable() + ")", expr()) + one("==", "!=", "<", "<=", "<")
            + one(one(NUMBERS), "-" + one(NUMBERS), variable(), expr()) + ")";
    }

    private String statement(int depth) {
        int kind = below(depth < 3 ? 12 : 9);
        String v = variable();
        switch (kind) {
            case 0:
                return v + "=in;";
            case 1:
            case 2:
                return v + "=" + v + one("+", "-", "*") + one(NUMBERS) + ";";
            case 3:
                return one("A", "B") + "[" + one("0", "1", "2", "3", v) + "]=" + expr() + ";";
            case 4:
                return "assert" + cond() + ";";
            case 9:
                return "if" + cond() + block(depth + 1) + (below(2) == 0 ? "" : "else" + block(depth + 1));
            case 10:
            case 11:
                return "while" + cond() + block(depth + 1);
            default:
                return v + "=" + expr() + ";";
        }
    }

    private String block(int depth) {
        StringBuilder all = new StringBuilder("{");
        for (int n = below(4); n > 0; n--) {
            all.append(statement(depth));
        }
        return all.append("}").toString();
    }

    private String program() {
        StringBuilder all = new StringBuilder();
        for (String v : new String[] {"a", "b", "c"}) {
            all.append(one(v + "=in;", v + "=0;", v + "=in;" + v + "=" + v + "%7;", v + "=3;", v + "=1;"));
        }
        for (int n = 0; n < 6; n++) {
            String next = statement(0);
            if (all.length() + next.length() <= 200) {
                all.append(next);
            }
        }
        return all.toString();
    }
}
