/** Promise 6. */
public final class ChooseTest {
    public static void main(String[] args) {
        answersWhatWas();
        wrongNumbers();
        countsInWhiles();
        Checks.end();
    }

    private static void answersWhatWas() {
        AlarmForge forge = new AlarmForge();
        Checks.due("first unroll", () -> forge.choose(0, 5), 1);
        Checks.due("first narrow", () -> forge.choose(1, 0), 1);
        Checks.due("next unroll", () -> forge.choose(0, 0), 5);
        Checks.due("next narrow", () -> forge.choose(1, 5), 0);
        Checks.due("unroll", () -> forge.count(5), 0);
        Checks.due("narrow", () -> forge.count(6), 5);
    }

    private static void wrongNumbers() {
        AlarmForge forge = new AlarmForge();
        int[][] wrong = {{-1, 0}, {2, 0}, {0, -1}, {0, 6}, {1, -1}, {1, 6}, {2, 9},
            {Integer.MIN_VALUE, 1}, {0, Integer.MAX_VALUE}};
        for (int[] w : wrong) {
            Checks.due("choose " + w[0] + " " + w[1], () -> forge.choose(w[0], w[1]), "IllegalArgument");
        }
        Checks.due("unroll as it was", () -> forge.count(5), 1);
        Checks.due("narrow as it was", () -> forge.count(6), 1);
    }

    private static void countsInWhiles() {
        AlarmForge forge = Checks.parsed("a=0;while(a<5){a=a+1;}");
        Checks.same("unroll 1, narrow 1", leftWith(forge, 1, 1), "5..5 0 5 in 5");
        Checks.same("unroll 5, narrow 0", leftWith(forge, 5, 0), "5..5 0 5 in 7");
        Checks.same("unroll 0, narrow 0", leftWith(forge, 0, 0), "5..10 1 0 in 4");
        Checks.same("unroll 0, narrow 1", leftWith(forge, 0, 1), "5..5 0 5 in 5");
        Checks.same("unroll 0, narrow 5", leftWith(forge, 0, 5), "5..5 0 5 in 9");
    }

    private static String leftWith(AlarmForge forge, int unroll, int narrow) {
        forge.choose(0, unroll);
        forge.choose(1, narrow);
        forge.analyse();
        return Checks.valueOf(forge, "a") + " in " + forge.count(3);
    }
}
