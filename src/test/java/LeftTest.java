/** Promises 13 and 14: what is asked behind a going through, and what is counted. */
public final class LeftTest {
    public static void main(String[] args) {
        parts();
        exceptionsInTheirOrder();
        deadAndNothing();
        latestOnly();
        counts();
        Checks.end();
    }

    private static void parts() {
        AlarmForge forge = Checks.analysed("a=in;a=a%5*4+1;B[3]=a-1;f=a;");
        int[] due = {-15, 17, 4, 1, 0};
        for (int what = 0; what < due.length; what++) {
            int w = what;
            Checks.due("a " + w, () -> forge.left(0, w), due[w]);
            Checks.due("f " + w, () -> forge.left(5, w), due[w]);
        }
        int[] cell = {-16, 16, 4, 0, 0};
        for (int what = 0; what < cell.length; what++) {
            int w = what;
            Checks.due("B3 " + w, () -> forge.left(17, w), cell[w]);
            Checks.due("A0 " + w, () -> forge.left(10, w), 0);
        }
        Checks.due("b is unset", () -> forge.left(1, 4), 1);
    }

    private static void exceptionsInTheirOrder() {
        AlarmForge none = Checks.parsed("a=b;");
        Checks.due("what first", () -> none.left(-1, 5), "IllegalArgument");
        Checks.due("what below", () -> none.left(0, -1), "IllegalArgument");
        Checks.due("then k", () -> none.left(6, 0), "IndexOutOfBounds");
        Checks.due("then none", () -> none.left(0, 0), "IllegalState");
        Checks.due("none of a cell", () -> none.left(17, 4), "IllegalState");
        none.analyse();
        Checks.due("what in a dead one", () -> none.left(0, 5), "IllegalArgument");
        int[] wrong = {-1, 6, 7, 9, 18, 100, Integer.MIN_VALUE, Integer.MAX_VALUE};
        for (int k : wrong) {
            Checks.due("k " + k, () -> none.left(k, 0), "IndexOutOfBounds");
            Checks.due("k " + k + " with a wrong what", () -> none.left(k, 7), "IllegalArgument");
        }
        Checks.due("dead last", () -> none.left(0, 0), "UnsupportedOperation");
    }

    private static void deadAndNothing() {
        AlarmForge dead = Checks.analysed("c=1;a=b;");
        for (int what = 0; what <= 4; what++) {
            int w = what;
            Checks.due("dead " + w, () -> dead.left(2, w), "UnsupportedOperation");
            Checks.due("dead cell " + w, () -> dead.left(10, w), "UnsupportedOperation");
        }
        AlarmForge alive = Checks.analysed("c=1;");
        for (int what = 0; what < 4; what++) {
            int w = what;
            Checks.due("nothing " + w, () -> alive.left(0, w), "UnsupportedOperation");
        }
        Checks.due("but unset", () -> alive.left(0, 4), 1);
        Checks.due("and this set", () -> alive.left(2, 4), 0);
        AlarmForge empty = Checks.analysed("");
        Checks.due("empty: a cell", () -> empty.left(13, 1), 0);
        Checks.due("empty: a variable", () -> empty.left(3, 4), 1);
    }

    private static void latestOnly() {
        AlarmForge forge = Checks.analysed("a=3;");
        forge.clear();
        Checks.write(forge, "a=4;");
        forge.parse();
        Checks.due("not gone through yet", () -> forge.left(0, 0), 3);
        forge.run(9);
        Checks.due("a run changes nothing", () -> forge.left(0, 0), 3);
        forge.analyse();
        Checks.due("gone through", () -> forge.left(0, 0), 4);
        forge.clear();
        Checks.write(forge, "b=in;");
        forge.parse();
        forge.analyse();
        Checks.due("nothing of the old one", () -> forge.left(0, 0), "UnsupportedOperation");
        Checks.due("unset again", () -> forge.left(0, 4), 1);
        forge.clear();
        Checks.write(forge, "b=1/0;");
        forge.parse();
        forge.analyse();
        Checks.due("dead now", () -> forge.left(0, 0), "UnsupportedOperation");
        forge.clear();
        forge.parse();
        forge.analyse();
        Checks.due("alive again", () -> forge.left(10, 0), 0);
    }

    private static void counts() {
        AlarmForge forge = Checks.parsed("a=in;while(a<9){a=a+1;}b=1/a;c=d;");
        forge.choose(0, 2);
        forge.choose(1, 3);
        forge.input(4);
        forge.input(5);
        int[] before = {33, 2, 5, 0, 0, 2, 3};
        for (int what = 0; what < before.length; what++) {
            int w = what;
            Checks.due("count " + w + " before", () -> forge.count(w), before[w]);
        }
        Checks.due("one warning", forge::analyse, 1);
        int[] behind = {33, 2, 5, 5, 1, 2, 3};
        for (int what = 0; what < behind.length; what++) {
            int w = what;
            Checks.due("count " + w + " behind", () -> forge.count(w), behind[w]);
        }
        int[] wrong = {-1, 7, 8, 100, Integer.MIN_VALUE, Integer.MAX_VALUE};
        for (int w : wrong) {
            Checks.due("count " + w, () -> forge.count(w), "IllegalArgument");
        }
        forge.clear();
        Checks.write(forge, "a=1");
        Checks.due("no program", forge::parse, "IllegalArgument");
        Checks.due("the old one counts", () -> forge.count(2), 5);
        Checks.due("text counts", () -> forge.count(0), 3);
        Checks.write(forge, ";");
        forge.parse();
        Checks.due("the new one counts", () -> forge.count(2), 1);
        Checks.due("passes of the latest", () -> forge.count(3), 5);
        forge.analyse();
        Checks.due("no passes now", () -> forge.count(3), 0);
        Checks.due("no warnings now", () -> forge.count(4), 0);
        forge.forget();
        Checks.due("no inputs now", () -> forge.count(1), 0);
    }
}
