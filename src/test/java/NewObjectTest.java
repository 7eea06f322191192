/** Promise 1. */
public final class NewObjectTest {
    public static void main(String[] args) {
        AlarmForge forge = new AlarmForge();
        Checks.due("characters", () -> forge.count(0), 0);
        Checks.due("inputs", () -> forge.count(1), 0);
        Checks.due("statements", () -> forge.count(2), 0);
        Checks.due("passes", () -> forge.count(3), 0);
        Checks.due("warnings", () -> forge.count(4), 0);
        Checks.due("unroll", () -> forge.count(5), 1);
        Checks.due("narrow", () -> forge.count(6), 1);
        Checks.due("where", forge::where, -2);
        Checks.due("nothing to run", () -> forge.run(5), "IllegalState");
        Checks.due("nothing to go through", forge::analyse, "IllegalState");
        Checks.due("no warning", () -> forge.warning(0), "IndexOutOfBounds");
        Checks.due("nothing left", () -> forge.left(0, 0), "IllegalState");
        Checks.due("no error", () -> forge.ran(0), 0);
        Checks.due("unset", () -> forge.ran(30), 1);
        Checks.due("empty text", forge::clear, 0);
        Checks.due("no inputs", forge::forget, 0);
        twoAreApart();
        Checks.end();
    }

    private static void twoAreApart() {
        AlarmForge one = Checks.parsed("a=1;");
        AlarmForge other = new AlarmForge();
        one.choose(0, 4);
        one.input(7);
        Checks.due("other text", () -> other.count(0), 0);
        Checks.due("other unroll", () -> other.count(5), 1);
        Checks.due("other inputs", () -> other.count(1), 0);
        Checks.due("other run", () -> other.run(1), "IllegalState");
    }
}
