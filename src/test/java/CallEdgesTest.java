/** Boundary cases of promises 6 and 11 to 14, a sentence at a time. */
public final class CallEdgesTest {
    public static void main(String[] args) {
        choose();
        chooseFromNowOn();
        chooseRefused();
        analyse();
        analyseRefused();
        warningsInOrder();
        warningRefused();
        leftParts();
        leftBehindProgram();
        leftMayBeUnset();
        leftOtherWhat();
        leftOtherNumber();
        leftWithoutGoingThrough();
        leftNothing();
        leftDead();
        counts();
        countsOfLatest();
        countRefused();
        Checks.end();
    }

    /** An object with warnings, passes, inputs, a run with an error, and a new text. */
    private static AlarmForge busy() {
        AlarmForge forge = Checks.parsed("a=in;b=in;if(a<b){c=a/b;}while(a<9){a=a+1;A[a]=c;}");
        forge.choose(0, 3);
        forge.choose(1, 2);
        forge.input(-4);
        forge.input(7);
        Checks.answer(() -> forge.run(400));
        forge.analyse();
        forge.clear();
        Checks.write(forge, "b=1;assert(b<1);");
        return forge;
    }

    /** As above, but nothing goes on behind its program. */
    private static AlarmForge dead() {
        AlarmForge forge = Checks.parsed("a=1;b=1/0;");
        forge.analyse();
        return forge;
    }

    private static void choose() {
        Checks.sentence("UNROLL (what 0) or NARROW (1) is n (0 to 5) from now on: what it was.");
        AlarmForge forge = new AlarmForge();
        int[] rows = {0, 5, 3, 3, 1, 4, 2};
        int unroll = 1;
        int narrow = 1;
        for (int n : rows) {
            Checks.due("unroll " + n, () -> forge.choose(0, n), unroll);
            Checks.due("unroll counted", () -> forge.count(5), n);
            Checks.due("narrow is as it was", () -> forge.count(6), narrow);
            unroll = n;
            Checks.due("narrow " + (5 - n), () -> forge.choose(1, 5 - n), narrow);
            Checks.due("narrow counted", () -> forge.count(6), 5 - n);
            Checks.due("unroll is as it was", () -> forge.count(5), n);
            narrow = 5 - n;
        }
    }

    private static void chooseFromNowOn() {
        Checks.sentence("from now on");
        AlarmForge forge = Checks.parsed("a=0;while(a<5){a=a+1;}");
        forge.choose(0, 0);
        forge.choose(1, 0);
        forge.analyse();
        Checks.same("chosen before", Checks.valueOf(forge, "a"), "5..10 1 0");
        forge.choose(1, 5);
        Checks.same("not by what is chosen behind", Checks.valueOf(forge, "a"), "5..10 1 0");
        Checks.due("nor its passes", () -> forge.count(3), 4);
        forge.analyse();
        Checks.same("gone through again", Checks.valueOf(forge, "a"), "5..5 0 5");
        Checks.due("with its passes", () -> forge.count(3), 9);
        forge.clear();
        Checks.write(forge, "a=0;while(a<7){a=a+1;}");
        forge.parse();
        Checks.due("parse leaves it", () -> forge.count(6), 5);
    }

    private static void chooseRefused() {
        Checks.sentence("IllegalArgumentException if a number is not as said.");
        int[][] wrong = {{-1, 0}, {2, 0}, {0, -1}, {0, 6}, {1, -1}, {1, 6}, {-1, 6}, {2, -1},
            {Checks.LEAST, 3}, {Checks.MOST, 3}, {0, Checks.LEAST}, {1, Checks.MOST}};
        for (int[] w : wrong) {
            Checks.refused("choose " + w[0] + " " + w[1], CallEdgesTest::busy, x -> x.choose(w[0], w[1]),
                "IllegalArgument");
        }
    }

    private static void analyse() {
        Checks.sentence("The PROGRAM is gone through with all that may be: how many WARNINGS.");
        Checks.due("none, empty", () -> Checks.parsed("").analyse(), 0);
        Checks.due("none", () -> Checks.parsed("a=in;b=a/2;").analyse(), 0);
        Checks.due("one", () -> Checks.parsed("a=b;").analyse(), 1);
        Checks.due("two at one point", () -> Checks.parsed("a=in;b=in;c=a/b;").analyse(), 2);
        Checks.due("one that comes up twice", () -> Checks.parsed("a=in;if(a<0){b=1;}while(a<b){}").analyse(), 1);
        String many = "a=in;b=in;a=a" + "/b".repeat(15) + ";";
        Checks.due("many", () -> Checks.parsed(many).analyse(), 30);
        AlarmForge forge = Checks.parsed("a=in;b=a+1;");
        forge.input(5);
        Checks.due("inputs do not matter", forge::analyse, 1);
        Checks.due("again as before", forge::analyse, 1);
        Checks.due("counted", () -> forge.count(4), 1);
        Checks.due("they are not taken", () -> forge.count(1), 1);
    }

    private static void analyseRefused() {
        Checks.sentence("IllegalStateException if nothing is parsed.");
        Checks.refused("analyse, new", AlarmForge::new, AlarmForge::analyse, "IllegalState");
        Checks.refused("analyse, not parsed", () -> Checks.written("a=1;"), AlarmForge::analyse, "IllegalState");
        AlarmForge forge = Checks.written("a=1");
        Checks.due("no program", forge::parse, "IllegalArgument");
        Checks.due("nothing to go through", forge::analyse, "IllegalState");
        Checks.due("so none was", () -> forge.left(0, 4), "IllegalState");
        Checks.due("an empty one is something", () -> Checks.parsed("").analyse(), 0);
    }

    private static void warningsInOrder() {
        Checks.sentence("WARNING k (0 the first), by POINTS, then KINDS: 1024 times the KIND and the POINT.");
        AlarmForge forge = Checks.analysed("A[4]=1;");
        Checks.due("at place 0", () -> forge.warning(0), 2 * 1024);
        Checks.warnsAsMarked("a=in;b=in;c=a^3^4/b;d=a^4%b;^5assert(c<d);");
        Checks.warnsAsMarked("a=in;if(a<0){b=1;}^2A[a]=^1b;");
        Checks.warnsAsMarked("a=in;if(a^3+a<0){if(1<a){c=a^3*a;}}a=^3-a;");
        Checks.warnsAsMarked(" ".repeat(180) + "a=in;^5assert(a<1);");
        // The while's come up behind the others, and stand in their places all the same.
        Checks.warnsAsMarked("a=in;b=in;while(a/2<b){a=a^3+b;}c=a^3+b;");
        String many = "a=in;b=in;a=a" + "/b".repeat(15) + ";";
        AlarmForge full = Checks.analysed(many);
        for (int k = 0; k < 30; k++) {
            int n = k;
            Checks.due("warning " + n, () -> full.warning(n), 1024 * (3 + n % 2) + 13 + n / 2 * 2);
        }
    }

    private static void warningRefused() {
        Checks.sentence("IndexOutOfBoundsException if there is none such in the latest going through.");
        int n = busy().count(4);
        Checks.same("some warnings", n > 1, true);
        for (int k : new int[] {-1, n, n + 1, Checks.LEAST, Checks.MOST}) {
            Checks.refused("warning " + k, CallEdgesTest::busy, x -> x.warning(k), "IndexOutOfBounds");
        }
        Checks.same("the last one", Checks.answer(() -> busy().warning(n - 1)).startsWith("I"), false);
        Checks.refused("warning, new", AlarmForge::new, x -> x.warning(0), "IndexOutOfBounds");
        Checks.refused("warning, parsed", () -> Checks.parsed("a=b;"), x -> x.warning(0), "IndexOutOfBounds");
        Checks.refused("warning, none", () -> Checks.analysed("a=1;"), x -> x.warning(0), "IndexOutOfBounds");
        AlarmForge first = Checks.analysed("A[4]=1;");
        first.clear();
        Checks.write(first, "B[0]=1;a=b;");
        first.parse();
        Checks.due("one, at another place", first::analyse, 1);
        Checks.due("not that of the first place", () -> first.warning(0), 1024 + 9);
        AlarmForge forge = Checks.analysed("a=b;");
        forge.clear();
        Checks.write(forge, "a=1;");
        forge.parse();
        Checks.due("of the latest, which was of another", () -> forge.warning(0), 1024 + 2);
        forge.analyse();
        Checks.due("of the latest, which has none", () -> forge.warning(0), "IndexOutOfBounds");
    }

    private static void leftParts() {
        Checks.sentence("of VARIABLE k (0 to 5), or CELL k - 10 (10 to 17), what 0: lo, 1: hi, 2: m, 3: r"
            + " of its VALUE");
        StringBuilder text = new StringBuilder("a=in;a=a%4*9;");
        for (int k = 1; k < 6; k++) {
            text.append((char) ('a' + k)).append("=a+").append(k).append(';');
        }
        for (int k = 0; k < 8; k++) {
            text.append(k < 4 ? 'A' : 'B').append('[').append(k % 4).append("]=a-").append(k).append(';');
        }
        AlarmForge forge = Checks.analysed(text.toString());
        for (int k = 0; k <= 17; k++) {
            if (k <= 5 || k >= 10) {
                int n = k;
                int more = k <= 5 ? k : 10 - k;
                Checks.due("lo " + n, () -> forge.left(n, 0), -27 + more);
                Checks.due("hi " + n, () -> forge.left(n, 1), 27 + more);
                Checks.due("m " + n, () -> forge.left(n, 2), 9);
                Checks.due("r " + n, () -> forge.left(n, 3), Math.floorMod(more, 9));
                Checks.due("unset " + n, () -> forge.left(n, 4), 0);
            }
        }
        AlarmForge ends = Checks.analysed("a=in;");
        Checks.due("the least", () -> ends.left(0, 0), Checks.LEAST);
        Checks.due("the greatest", () -> ends.left(0, 1), Checks.MOST);
        AlarmForge least = Checks.analysed("a=" + Checks.LEAST_INT + ";");
        Checks.due("r of the least", () -> least.left(0, 3), Checks.LEAST);
    }

    private static void leftBehindProgram() {
        Checks.sentence("Behind the PROGRAM, by the latest going through");
        Checks.same("at its end", Checks.valueOf(Checks.analysed("a=1;a=2;a=a+1;"), "a"), "3..3 0 3");
        Checks.same("behind its last if", Checks.valueOf(Checks.analysed("a=in;if(a<5){a=5;}"), "a"),
            "5..2147483647 1 0");
        Checks.same("behind its last while", Checks.valueOf(Checks.analysed("a=in;while(a<5){a=5;}"), "a"),
            "5..2147483647 1 0");
        AlarmForge forge = Checks.analysed("a=1;");
        Checks.write(forge, "a=2;");
        Checks.same("a text alone", Checks.valueOf(forge, "a"), "1..1 0 1");
        forge.parse();
        Checks.same("a parse alone", Checks.valueOf(forge, "a"), "1..1 0 1");
        forge.run(500);
        Checks.same("a run alone", Checks.valueOf(forge, "a"), "1..1 0 1");
        forge.analyse();
        Checks.same("a later one", Checks.valueOf(forge, "a"), "2..2 0 2");
    }

    private static void leftMayBeUnset() {
        Checks.sentence("4: 1 if it MAY BE UNSET, else 0");
        AlarmForge forge = Checks.analysed("a=in;if(a<0){b=1;f=1;}else{f=2;}");
        int[] due = {0, 1, 1, 1, 1, 0};
        for (int k = 0; k < 6; k++) {
            int n = k;
            Checks.due("variable " + n, () -> forge.left(n, 4), due[n]);
        }
        for (int k = 10; k <= 17; k++) {
            int n = k;
            Checks.due("cell " + n, () -> forge.left(n, 4), 0);
        }
    }

    private static void leftOtherWhat() {
        Checks.sentence("IllegalArgumentException for another what");
        for (int what : new int[] {-1, 5, 6, Checks.LEAST, Checks.MOST}) {
            for (int k : new int[] {0, 10, 17, -1, 6, 9, 18}) {
                Checks.refused("left " + k + " " + what, CallEdgesTest::busy, x -> x.left(k, what), "IllegalArgument");
            }
            Checks.refused("what " + what + ", new", AlarmForge::new, x -> x.left(0, what), "IllegalArgument");
            Checks.refused("what " + what + ", dead", CallEdgesTest::dead, x -> x.left(0, what), "IllegalArgument");
        }
    }

    private static void leftOtherNumber() {
        Checks.sentence("IndexOutOfBoundsException for another k");
        for (int k : new int[] {-1, 6, 9, 18, Checks.LEAST, Checks.MOST}) {
            for (int what = 0; what <= 4; what += 4) {
                int w = what;
                Checks.refused("left " + k + " " + w, CallEdgesTest::busy, x -> x.left(k, w), "IndexOutOfBounds");
                Checks.refused("k " + k + ", new", AlarmForge::new, x -> x.left(k, w), "IndexOutOfBounds");
                Checks.refused("k " + k + ", dead", CallEdgesTest::dead, x -> x.left(k, w), "IndexOutOfBounds");
            }
        }
        AlarmForge forge = Checks.analysed("a=1;");
        for (int k = -3; k <= 30; k++) {
            int n = k;
            boolean known = k >= 0 && k <= 5 || k >= 10 && k <= 17;
            Checks.same("k " + n, Checks.answer(() -> forge.left(n, 4)).equals("IndexOutOfBounds"), !known);
        }
    }

    private static void leftWithoutGoingThrough() {
        Checks.sentence("IllegalStateException if there was none");
        for (int k : new int[] {0, 5, 10, 17}) {
            for (int what = 0; what <= 4; what++) {
                int w = what;
                Checks.refused("left " + k + " " + w + ", new", AlarmForge::new, x -> x.left(k, w), "IllegalState");
                Checks.refused("parsed alone", () -> Checks.parsed("a=1;"), x -> x.left(k, w), "IllegalState");
            }
        }
        AlarmForge forge = Checks.parsed("a=1;");
        forge.run(1);
        Checks.due("a run is none", () -> forge.left(0, 0), "IllegalState");
        Checks.due("gone through", () -> forge.analyse(), 0);
        Checks.due("then there was one", () -> forge.left(0, 0), 1);
        Checks.due("a run", () -> forge.run(1), 0);
        Checks.due("takes none away", () -> forge.left(0, 0), 1);
        forge.clear();
        Checks.due("parse of another", forge::parse, 0);
        Checks.due("the latest is still that one", () -> forge.left(0, 0), 1);
    }

    private static void leftNothing() {
        Checks.sentence("UnsupportedOperationException if the VALUE is NOTHING (what 0 to 3)");
        for (int what = 0; what <= 3; what++) {
            int w = what;
            Checks.refused("left 0 " + w, () -> Checks.analysed("b=1;"), x -> x.left(0, w), "UnsupportedOperation");
            Checks.refused("left 5 " + w, () -> Checks.analysed(""), x -> x.left(5, w), "UnsupportedOperation");
            Checks.same("left 1 " + w, Checks.answer(() -> Checks.analysed("b=1;").left(1, w)).startsWith("U"), false);
        }
        Checks.due("that it may be unset is told", () -> Checks.analysed("b=1;").left(0, 4), 1);
        AlarmForge forge = Checks.analysed("a=1;b=1;c=1;d=1;e=1;f=1;");
        forge.clear();
        forge.parse();
        forge.analyse();
        for (int k = 0; k < 6; k++) {
            int n = k;
            Checks.due("no more a value of " + n, () -> forge.left(n, 0), "UnsupportedOperation");
        }
    }

    private static void leftDead() {
        Checks.sentence("or the STATE is DEAD (this last)");
        for (int k : new int[] {0, 1, 5, 10, 17}) {
            for (int what = 0; what <= 4; what++) {
                int w = what;
                Checks.refused("dead " + k + " " + w, CallEdgesTest::dead, x -> x.left(k, w), "UnsupportedOperation");
            }
        }
        AlarmForge forge = dead();
        forge.clear();
        forge.parse();
        Checks.due("dead until the next", () -> forge.left(10, 0), "UnsupportedOperation");
        forge.analyse();
        Checks.due("then alive", () -> forge.left(10, 0), 0);
    }

    private static void counts() {
        Checks.sentence("What 0: characters of the TEXT, 1: INPUTS, 2: STATEMENTS parsed");
        int[] first = {0, 0, 0, 0, 0, 1, 1};
        int[] due = {16, 2, 7, busy().count(3), busy().count(4), 3, 2};
        for (int what = 0; what <= 6; what++) {
            int w = what;
            Checks.due("count " + w + ", new", () -> new AlarmForge().count(w), first[w]);
            Checks.due("count " + w, () -> busy().count(w), due[w]);
        }
        Checks.due("200 characters", () -> Checks.written(" ".repeat(200)).count(0), 200);
        Checks.due("50 statements", () -> Checks.parsed("a=1;".repeat(50)).count(2), 50);
        Checks.sentence("5: UNROLL, 6: NARROW");
        for (int n = 0; n <= 5; n++) {
            AlarmForge chosen = new AlarmForge();
            chosen.choose(0, n);
            chosen.choose(1, 5 - n);
            Checks.due("unroll", () -> chosen.count(5), n);
            Checks.due("narrow", () -> chosen.count(6), 5 - n);
        }
        Checks.sentence("2: STATEMENTS parsed");
        AlarmForge forge = busy();
        Checks.due("parsed", forge::parse, 2);
        Checks.due("two statements", () -> forge.count(2), 2);
    }

    private static void countsOfLatest() {
        Checks.sentence("3: how often BLOCKS of whiles were gone through in the latest going through, 4: its WARNINGS");
        AlarmForge forge = Checks.parsed("a=in;while(a<5){a=in;}b=c;");
        Checks.due("no passes before one", () -> forge.count(3), 0);
        Checks.due("no warnings before one", () -> forge.count(4), 0);
        forge.analyse();
        Checks.due("passes", () -> forge.count(3), 3);
        Checks.due("warnings", () -> forge.count(4), 1);
        forge.analyse();
        Checks.due("passes of the latest alone", () -> forge.count(3), 3);
        Checks.due("warnings of the latest alone", () -> forge.count(4), 1);
        forge.clear();
        forge.parse();
        Checks.due("passes until the next", () -> forge.count(3), 3);
        forge.analyse();
        Checks.due("no passes", () -> forge.count(3), 0);
        Checks.due("no warnings", () -> forge.count(4), 0);
        Checks.due("a while not come to", () -> Checks.analysed("if(2<1){while(1<2){}}").count(3), 0);
        Checks.due("behind a DEAD one", () -> Checks.analysed("a=1/0;while(1<2){}").count(3), 0);
        Checks.due("never taken, looked at", () -> Checks.analysed("while(2<1){}").count(3), 3);
    }

    private static void countRefused() {
        Checks.sentence("IllegalArgumentException for others.");
        for (int what : new int[] {-1, 7, 8, 100, Checks.LEAST, Checks.MOST}) {
            Checks.refused("count " + what, CallEdgesTest::busy, x -> x.count(what), "IllegalArgument");
            Checks.refused("count " + what + ", new", AlarmForge::new, x -> x.count(what), "IllegalArgument");
        }
    }
}
