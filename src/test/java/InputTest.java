/** Promises 7 and 8. */
public final class InputTest {
    public static void main(String[] args) {
        AlarmForge forge = Checks.parsed("a=in;b=in;c=in;");
        for (int i = 1; i <= 8; i++) {
            int n = i;
            Checks.due("input " + n, () -> forge.input(10 * n), n);
        }
        Checks.due("a ninth", () -> forge.input(90), "IllegalState");
        Checks.due("still eight", () -> forge.count(1), 8);
        forge.run(9);
        Checks.due("the first", () -> forge.ran(10), 10);
        Checks.due("the third", () -> forge.ran(12), 30);
        Checks.due("taken", () -> forge.ran(2), 3);
        Checks.due("a run leaves them", () -> forge.count(1), 8);
        forge.run(9);
        Checks.due("the first again", () -> forge.ran(10), 10);
        Checks.due("forget", forge::forget, 8);
        Checks.due("forget again", forge::forget, 0);
        Checks.due("none", () -> forge.count(1), 0);
        Checks.due("what ran stays", () -> forge.ran(10), 10);
        Checks.due("the least", () -> forge.input(Integer.MIN_VALUE), 1);
        Checks.due("the greatest", () -> forge.input(Integer.MAX_VALUE), 2);
        forge.run(9);
        Checks.due("least taken", () -> forge.ran(10), Integer.MIN_VALUE);
        Checks.due("greatest taken", () -> forge.ran(11), Integer.MAX_VALUE);
        Checks.due("no more: 0", () -> forge.ran(12), 0);
        Checks.due("but set", () -> forge.ran(32), 0);
        Checks.due("only two were there", () -> forge.ran(2), 2);
        Checks.due("others need none parsed", () -> new AlarmForge().input(1), 1);
        Checks.end();
    }
}
