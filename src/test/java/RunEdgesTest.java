/** Boundary cases of POINTS and KINDS, of a RUN, and of promises 7 to 10, a sentence at a time. */
public final class RunEdgesTest {
    private static final String MIN = Checks.LEAST_INT;
    private static final String MAX = Checks.MOST_INT;

    public static void main(String[] args) {
        points();
        kindUnset();
        kindIndex();
        kindOver();
        kindZero();
        kindFalse();
        minusInFront();
        oneBehindTheOther();
        atFirst();
        inputsTaken();
        leftToRight();
        indexBeforeValue();
        asInJava();
        condsNotSo();
        endsAtFirstError();
        stopped();
        condsLookedAtAgain();
        eightInputs();
        forget();
        limits();
        nothingParsed();
        exceptionsOfKinds();
        ranBeforeRun();
        ranOfLatest();
        ranOthers();
        Checks.end();
    }

    private static void points() {
        Checks.sentence("A POINT is the place (of the first character) of a TOKEN at which something may go wrong");
        Checks.runsAsMarked("^5assert(2<1);");
        Checks.runsAsMarked("^2A[7]=1;");
        Checks.runsAsMarked("  \n^5assert(2<1);");
        Checks.runsAsMarked(" ".repeat(196) + "a=^1b;");
        Checks.runsAsMarked(" ".repeat(194) + "a=1^4/0;");
        Checks.warnsAsMarked(" ".repeat(196) + "a=^1b;");
        Checks.warnsAsMarked(" ".repeat(194) + "a=1^4/0;");
        Checks.warnsAsMarked("^5assert(2<1);");
    }

    private static void kindUnset() {
        Checks.sentence("1 UNSET at a VARIABLE that is read");
        for (char c = 'a'; c <= 'f'; c++) {
            Checks.runsAsMarked(c + "=^1" + c + ";");
            Checks.runsAsMarked(c + "=1;" + c + "=" + c + ";");
            Checks.runsAsMarked(c + "=in;A[0]=" + c + ";");
        }
        Checks.runsAsMarked("A[^1a]=1;");
        Checks.runsAsMarked("A[0]=^1a;");
        Checks.runsAsMarked("b=A[^1a];");
        Checks.runsAsMarked("b=-(^1a);");
        Checks.runsAsMarked("if(^1a<1){}");
        Checks.runsAsMarked("while(1<^1a){}");
        Checks.runsAsMarked("assert(^1a==a);");
    }

    private static void kindIndex() {
        Checks.sentence("2 INDEX at an ARRAY");
        int[] inside = {0, 3};
        int[] beyond = {-1, 4, Checks.LEAST, Checks.MOST};
        for (int i : inside) {
            Checks.runsAsMarked("a=in;b=A[a];", i);
            Checks.runsAsMarked("a=in;B[a]=5;", i);
        }
        for (int i : beyond) {
            Checks.runsAsMarked("a=in;b=^2A[a];", i);
            Checks.runsAsMarked("a=in;b=1+^2B[a]*2;", i);
            Checks.runsAsMarked("a=in;^2B[a]=5;", i);
        }
    }

    private static void over(String sign, int x, int y, boolean over) {
        Checks.runsAsMarked("a=in;b=in;c=a" + (over ? "^3" : "") + sign + "b;", x, y);
    }

    private static void kindOver() {
        Checks.sentence("3 OVER at + - * / % (what is no int)");
        over("+", Checks.MOST, 0, false);
        over("+", Checks.MOST, 1, true);
        over("+", Checks.MOST - 1, 1, false);
        over("+", Checks.LEAST, 0, false);
        over("+", Checks.LEAST, -1, true);
        over("+", Checks.LEAST, Checks.MOST, false);
        over("-", Checks.LEAST, 1, true);
        over("-", Checks.LEAST + 1, 1, false);
        over("-", Checks.MOST, -1, true);
        over("-", -1, Checks.LEAST, false);
        over("-", 0, Checks.LEAST, true);
        over("*", 46340, 46340, false);
        over("*", 46341, 46341, true);
        over("*", 65536, 32768, true);
        over("*", -65536, 32768, false);
        over("*", Checks.LEAST, 1, false);
        over("*", Checks.LEAST, -1, true);
        over("*", Checks.LEAST, Checks.LEAST, true);
        over("*", Checks.MOST, Checks.MOST, true);
        over("/", Checks.LEAST, -1, true);
        over("/", Checks.LEAST, 1, false);
        over("/", Checks.LEAST + 1, -1, false);
        over("/", Checks.LEAST, -2, false);
        over("%", Checks.LEAST, -1, false);
        over("%", Checks.MOST, Checks.LEAST, false);
    }

    private static void kindZero() {
        Checks.sentence("4 ZERO at / and %");
        for (String sign : new String[] {"/", "%"}) {
            Checks.runsAsMarked("a=in;b=5^4" + sign + "a;", 0);
            Checks.runsAsMarked("a=in;b=a^4" + sign + "a;", 0);
            Checks.runsAsMarked("a=in;b=5" + sign + "a;", 1);
            Checks.runsAsMarked("a=in;b=5" + sign + "a;", -1);
        }
    }

    private static void kindFalse() {
        Checks.sentence("5 FALSE at assert");
        Checks.runsAsMarked("^5assert(1==2);");
        Checks.runsAsMarked("a=1;if(a<2){ ^5assert(a<1);}");
        Checks.runsAsMarked("assert(1==1);^5assert(1!=1);assert(1==2);");
    }

    private static void minusInFront() {
        Checks.sentence("(For - in front of a FACTOR OVER at the -; it is 0 less the FACTOR.)");
        Checks.runsAsMarked("a=in;b=^3-a;", Checks.LEAST);
        Checks.runsAsMarked("a=in;b=-a;c=in;assert(b==c);", Checks.MOST, -Checks.MOST);
        Checks.runsAsMarked("a=in;b=--a;assert(b==a);", Checks.MOST);
        Checks.runsAsMarked("a=in;b=-^3-a;", Checks.LEAST);
        Checks.runsAsMarked("a=in;assert(-a==0);", 0);
        Checks.runsAsMarked("a=-(^3-" + MIN + ");");
        Checks.warnsAsMarked("a=in;b=^3-a;");
        Checks.warnsAsMarked("a=^3-" + MIN + ";");
        Checks.warnsAsMarked("a=-" + MAX + ";");
        Checks.leaves("a=-" + MAX + ";", "a", "-2147483647..-2147483647 0 -2147483647");
    }

    private static void oneBehindTheOther() {
        Checks.sentence("A RUN does the STATEMENTS one behind the other, with ints");
        Checks.runsAsMarked("a=1;b=a;a=2;assert(b==1);assert(a==2);if(a<b){c=1;}else{c=2;a=3;}assert(a+c==5);");
        Checks.runsAsMarked("a=in;b=a/2*2;c=a-b;assert(c==1);", Checks.MOST);
        Checks.runsAsMarked("a=in;b=in;assert(a-1==b);assert(b<a);", Checks.LEAST + 1, Checks.LEAST);
        Checks.runsAsMarked("a=0;b=1;while(a<31){a=a+1;b=b^3*2;}");
        Checks.runsAsMarked("a=0;b=-1;while(a<31){a=a+1;b=b*2;}b=^3-b;");
    }

    private static void atFirst() {
        Checks.sentence("VARIABLES are UNSET, CELLS 0 at first");
        AlarmForge forge = Checks.parsed("a=in;if(a!=0){b=1;c=1;d=1;e=1;f=1;A[0]=9;A[3]=9;B[0]=9;B[3]=9;}");
        forge.input(1);
        forge.run(500);
        Checks.due("set", () -> forge.ran(35), 0);
        Checks.due("stored", () -> forge.ran(27), 9);
        forge.run(0);
        for (int k = 0; k < 6; k++) {
            int n = k;
            Checks.due("unset again " + n, () -> forge.ran(30 + n), 1);
            Checks.due("as 0 " + n, () -> forge.ran(10 + n), 0);
        }
        for (int k = 0; k < 8; k++) {
            int n = k;
            Checks.due("cell again " + n, () -> forge.ran(20 + n), 0);
        }
        Checks.runsAsMarked("assert(A[0]+A[1]+A[2]+A[3]+B[0]+B[1]+B[2]+B[3]==0);");
    }

    private static void inputsTaken() {
        Checks.sentence("= in takes the next INPUT (0 when there are no more)");
        Checks.runsAsMarked("a=in;assert(a==0);");
        Checks.runsAsMarked("a=in;b=in;assert(a==7);assert(b==0);", 7);
        Checks.runsAsMarked("a=in;a=in;a=in;assert(a==3);", 1, 2, 3);
        Checks.runsAsMarked("a=0;while(a!=8){a=in;}b=in;assert(b==0);", 1, 2, 3, 4, 5, 6, 7, 8);
        AlarmForge forge = Checks.parsed("a=in;b=in;c=in;");
        forge.input(Checks.LEAST);
        forge.input(Checks.MOST);
        for (int n = 0; n < 2; n++) {
            forge.run(3);
            Checks.due("the first", () -> forge.ran(10), Checks.LEAST);
            Checks.due("the second", () -> forge.ran(11), Checks.MOST);
            Checks.due("no third", () -> forge.ran(12), 0);
            Checks.due("set nonetheless", () -> forge.ran(32), 0);
            Checks.due("taken that were there", () -> forge.ran(2), 2);
            Checks.due("they stay for the next run", () -> forge.count(1), 2);
        }
    }

    private static void leftToRight() {
        Checks.sentence("EXPRS are worked out from left to right");
        Checks.runsAsMarked("a=^1b+1/0;");
        Checks.runsAsMarked("a=1^4/0+b;");
        Checks.runsAsMarked("a=1/(^1b)/0;");
        Checks.runsAsMarked("a=^2A[4]+B[5];");
        Checks.runsAsMarked("a=A[^2B[5]+4];");
        Checks.runsAsMarked("a=1+2*^1b-c;");
        Checks.runsAsMarked("a=1-(2-^1b)/0;");
        Checks.runsAsMarked("a=0;b=a*(1^4/0)+c;");
        Checks.runsAsMarked("if(1^4/0<a){}");
        Checks.runsAsMarked("if(^1a<1/0){}");
        Checks.runsAsMarked("if(0<1^4/0){}");
    }

    private static void indexBeforeValue() {
        Checks.sentence("for ARRAY [ i ] = e first i (INDEX), then e");
        Checks.runsAsMarked("^2A[4]=b;");
        Checks.runsAsMarked("^2A[-1]=1/0;");
        Checks.runsAsMarked("A[^1a]=b;");
        Checks.runsAsMarked("A[1^4/0]=b;");
        Checks.runsAsMarked("A[3]=^1b;");
        Checks.runsAsMarked("A[3]=1^4/0;");
        Checks.runsAsMarked("A[0]=2;A[A[0]]=A[0]+A[2];A[A[2]]=A[2]+1;assert(A[2]==3);");
    }

    private static void asInJava() {
        Checks.sentence("/ and % as in Java");
        int[] some = {Checks.LEAST, -7, -2, -1, 1, 2, 7, Checks.MOST};
        for (int x : some) {
            for (int y : some) {
                if (x != Checks.LEAST || y != -1) {
                    AlarmForge forge = Checks.parsed("a=in;b=in;c=a/b;d=a%b;");
                    forge.input(x);
                    forge.input(y);
                    Checks.due("run", () -> forge.run(4), 0);
                    Checks.due(x + "/" + y, () -> forge.ran(12), x / y);
                    Checks.due(x + "%" + y, () -> forge.ran(13), x % y);
                }
            }
        }
        Checks.runsAsMarked("a=in;assert(a%-1==0);", Checks.LEAST);
    }

    private static void condsNotSo() {
        Checks.sentence("assert: FALSE if its COND is not so.");
        int[] some = {Checks.LEAST, -1, 0, 1, Checks.MOST};
        for (int x : some) {
            for (int y : some) {
                Checks.runsAsMarked("a=in;b=in;" + (x == y ? "" : "^5") + "assert(a==b);", x, y);
                Checks.runsAsMarked("a=in;b=in;" + (x != y ? "" : "^5") + "assert(a!=b);", x, y);
                Checks.runsAsMarked("a=in;b=in;" + (x < y ? "" : "^5") + "assert(a<b);", x, y);
                Checks.runsAsMarked("a=in;b=in;" + (x <= y ? "" : "^5") + "assert(a<=b);", x, y);
            }
        }
    }

    private static void endsAtFirstError() {
        Checks.sentence("It ends with the PROGRAM, at the first of these errors");
        Checks.runsAsMarked("");
        Checks.runsAsMarked("a=1;b=^1c;d=1/0;");
        AlarmForge forge = Checks.parsed("a=1;a=2+1/0;a=3;A[0]=1;");
        Checks.due("the error", () -> forge.run(500), "Arithmetic");
        Checks.due("what was before it stays", () -> forge.ran(10), 1);
        Checks.due("nothing behind it", () -> forge.ran(20), 0);
        Checks.due("begun until then", () -> forge.ran(1), 2);
        AlarmForge inner = Checks.parsed("a=0;while(a<9){if(a==2){assert(a!=2);}a=a+1;}");
        Checks.due("inside of BLOCKS", () -> inner.run(500), "UnsupportedOperation");
        Checks.due("its value there", () -> inner.ran(10), 2);
        Checks.due("begun inside", () -> inner.ran(1), 1 + 3 + 3 + 3);
    }

    private static void runsWith(String text, int limit, String due) {
        AlarmForge forge = Checks.parsed(text);
        Checks.same(text + " up to " + limit, Checks.runOf(forge, limit) + ", " + forge.ran(1) + " begun", due);
    }

    private static void stopped() {
        Checks.sentence("or is STOPPED, if one more STATEMENT would be begun than as many as said");
        runsWith("", 0, "0, 0 begun");
        runsWith("a=1;", 0, "-5, 0 begun");
        runsWith("a=1;", 1, "0, 1 begun");
        runsWith("a=1;b=2;c=3;", 2, "-5, 2 begun");
        runsWith("a=1;b=2;c=3;", 3, "0, 3 begun");
        runsWith("a=1;b=2;c=3;", 500, "0, 3 begun");
        runsWith("if(1<2){a=1;}", 1, "-5, 1 begun");
        runsWith("if(1<2){a=1;}", 2, "0, 2 begun");
        runsWith("if(2<1){a=1;}", 1, "0, 1 begun");
        runsWith("if(2<1){}else{a=1;}", 1, "-5, 1 begun");
        runsWith("if(1<2){}else{a=1;}", 1, "0, 1 begun");
        runsWith("assert(1<2);assert(1<2);", 1, "-5, 1 begun");
        runsWith("a=1/0;", 0, "-5, 0 begun");
        runsWith("a=1/0;", 1, "Arithmetic 4@3, 1 begun");
        runsWith("a=1;a=1/0;", 1, "-5, 1 begun");
        runsWith("a=1;".repeat(50), 49, "-5, 49 begun");
        runsWith("a=1;".repeat(50), 50, "0, 50 begun");
        AlarmForge forge = Checks.parsed("a=1;A[1]=2;b=3;");
        forge.run(2);
        Checks.due("what was done stays", () -> forge.ran(21), 2);
        Checks.due("what was not is not", () -> forge.ran(31), 1);
        Checks.due("it is no error", () -> forge.ran(0), 0);
    }

    private static void condsLookedAtAgain() {
        Checks.sentence("(a COND of a while that is looked at again counts as its STATEMENT begun again)");
        runsWith("while(2<1){}", 1, "0, 1 begun");
        runsWith("while(2<1){}", 0, "-5, 0 begun");
        runsWith("while(1<2){}", 0, "-5, 0 begun");
        runsWith("while(1<2){}", 1, "-5, 1 begun");
        runsWith("while(1<2){}", 500, "-5, 500 begun");
        runsWith("a=0;while(a<1){a=1;}", 3, "-5, 3 begun");
        runsWith("a=0;while(a<1){a=1;}", 4, "0, 4 begun");
        runsWith("a=0;while(2/(1-a)<3){a=1;}", 3, "-5, 3 begun");
        runsWith("a=0;while(2/(1-a)<3){a=1;}", 4, "Arithmetic 4@11, 4 begun");
        runsWith("a=0;while(a<249){a=a+1;}", 500, "0, 500 begun");
        runsWith("a=0;while(a<249){a=a+1;}", 499, "-5, 499 begun");
        runsWith("a=0;while(a<250){a=a+1;}", 500, "-5, 500 begun");
        runsWith("a=0;while(a<2){b=0;while(b<2){b=b+1;}a=a+1;}", 18, "0, 18 begun");
        runsWith("a=0;while(a<2){b=0;while(b<2){b=b+1;}a=a+1;}", 17, "-5, 17 begun");
    }

    private static AlarmForge withInputs(int n) {
        AlarmForge forge = Checks.parsed("a=0;b=0;while(b<9){a=a*3;c=in;a=a+c;b=b+1;}");
        for (int v = 1; v <= n; v++) {
            forge.input(v);
        }
        forge.run(20);
        forge.analyse();
        return forge;
    }

    private static void eightInputs() {
        Checks.sentence("An INPUT more for runs: how many there are. IllegalStateException if there are 8.");
        AlarmForge forge = new AlarmForge();
        for (int n = 1; n <= 8; n++) {
            int v = n == 1 ? Checks.LEAST : n == 2 ? Checks.MOST : 0;
            Checks.due("input", () -> forge.input(v), n);
            Checks.due("counted", () -> forge.count(1), n);
        }
        Checks.refused("a ninth", () -> withInputs(8), x -> x.input(99), "IllegalState");
        Checks.refused("a ninth 0", () -> withInputs(8), x -> x.input(0), "IllegalState");
        Checks.due("an eighth", () -> withInputs(7).input(99), 8);
        AlarmForge eight = withInputs(8);
        Checks.due("the eighth is taken", () -> eight.run(500), 0);
        Checks.due("all of them", () -> eight.ran(2), 8);
    }

    private static void forget() {
        Checks.sentence("No INPUTS any more: how many there were.");
        Checks.due("none", () -> new AlarmForge().forget(), 0);
        for (int n = 1; n <= 8; n++) {
            int all = n;
            AlarmForge forge = withInputs(n);
            Checks.due("some", forge::forget, all);
            Checks.due("none then", forge::forget, 0);
            Checks.due("none counted", () -> forge.count(1), 0);
            forge.run(500);
            Checks.due("none taken", () -> forge.ran(2), 0);
            Checks.due("0 instead", () -> forge.ran(10), 0);
        }
        AlarmForge again = withInputs(8);
        again.forget();
        for (int n = 1; n <= 8; n++) {
            Checks.due("room for eight again", () -> again.input(1), n);
        }
        Checks.due("no more", () -> again.input(1), "IllegalState");
    }

    private static void limits() {
        Checks.sentence("A RUN of at most so many STATEMENTS (0 to 500)");
        Checks.due("0", () -> withInputs(2).run(0), -5);
        Checks.due("1", () -> withInputs(2).run(1), -5);
        Checks.due("500", () -> withInputs(2).run(500), 0);
        Checks.sentence("IllegalArgumentException if the number is not as said");
        int[] wrong = {-1, 501, Checks.LEAST, Checks.MOST};
        for (int limit : wrong) {
            Checks.refused("limit " + limit, () -> withInputs(2), x -> x.run(limit), "IllegalArgument");
            Checks.refused("limit " + limit + ", new", AlarmForge::new, x -> x.run(limit), "IllegalArgument");
        }
        Checks.sentence("0 if it ended with the PROGRAM, -5 if it was STOPPED");
        Checks.due("ended", () -> Checks.parsed("a=1;").run(1), 0);
        Checks.due("stopped", () -> Checks.parsed("a=1;b=1;").run(1), -5);
    }

    private static void nothingParsed() {
        Checks.sentence("IllegalStateException if nothing is parsed");
        Checks.refused("a new one", AlarmForge::new, x -> x.run(0), "IllegalState");
        Checks.refused("a text not parsed", () -> Checks.written("a=1;"), x -> x.run(500), "IllegalState");
        AlarmForge forge = Checks.written("a=;");
        Checks.due("no program", forge::parse, "IllegalArgument");
        Checks.due("nothing to run", () -> forge.run(1), "IllegalState");
        Checks.due("an empty program is one", () -> Checks.parsed("").run(0), 0);
    }

    private static void exceptionsOfKinds() {
        Checks.sentence("for UNSET; IndexOutOfBoundsException for INDEX; ArithmeticException for OVER and ZERO;"
            + " UnsupportedOperationException for FALSE.");
        Checks.due("UNSET", () -> Checks.parsed("a=b;").run(9), "IllegalState");
        Checks.due("INDEX", () -> Checks.parsed("a=A[4];").run(9), "IndexOutOfBounds");
        Checks.due("OVER", () -> Checks.parsed("a=99999*99999;").run(9), "Arithmetic");
        Checks.due("ZERO", () -> Checks.parsed("a=1/0;").run(9), "Arithmetic");
        Checks.due("FALSE", () -> Checks.parsed("assert(1<1);").run(9), "UnsupportedOperation");
    }

    private static boolean isKnown(int what) {
        return what >= 0 && what <= 2 || what >= 10 && what <= 15 || what >= 20 && what <= 27
            || what >= 30 && what <= 35;
    }

    private static void ranBeforeRun() {
        Checks.sentence("0 for all before one (but 1 for 30 to 35)");
        AlarmForge[] all = {new AlarmForge(), Checks.analysed("a=1/0;"), Checks.written("a=")};
        Checks.due("refused", () -> all[0].run(1), "IllegalState");
        Checks.due("refused too", () -> all[1].run(501), "IllegalArgument");
        for (AlarmForge forge : all) {
            forge.input(4);
            for (int what = 0; what <= 35; what++) {
                int w = what;
                if (isKnown(w)) {
                    Checks.due("ran " + w, () -> forge.ran(w), w >= 30 ? 1 : 0);
                }
            }
        }
    }

    private static void ranOfLatest() {
        Checks.sentence("Of the latest run what 0: 1024 times the KIND and the POINT of its error (0 without)");
        Checks.due("at place 0", () -> behindRun("assert(1<1);").ran(0), 5 * 1024);
        Checks.due("at place 198", () -> behindRun(" ".repeat(196) + "a=b;").ran(0), 1024 + 198);
        Checks.due("without", () -> behindRun("a=1;").ran(0), 0);
        Checks.due("ZERO", () -> behindRun("a=1/0;").ran(0), 4 * 1024 + 3);
        Checks.due("OVER", () -> behindRun("a=99999*99999;").ran(0), 3 * 1024 + 7);
        AlarmForge forge = Checks.parsed("a=in;b=1/a;");
        Checks.due("by 0", () -> forge.run(500), "Arithmetic");
        Checks.due("an error", () -> forge.ran(0), 4 * 1024 + 8);
        forge.run(1);
        Checks.due("stopped, of the latest", () -> forge.ran(0), 0);
        forge.clear();
        Checks.write(forge, "b=1;a=c;");
        forge.parse();
        forge.analyse();
        Checks.due("a parse is no run", () -> forge.ran(1), 1);
        Checks.due("its value stays", () -> forge.ran(30), 0);
        Checks.sentence("1: STATEMENTS begun, 2: INPUTS taken (that were there)");
        AlarmForge taking = Checks.parsed("a=in;b=in;c=in;");
        taking.input(5);
        taking.input(0);
        for (int limit = 0; limit <= 4; limit++) {
            taking.run(limit);
            Checks.due("begun of " + limit, () -> taking.ran(1), Math.min(limit, 3));
            Checks.due("taken of " + limit, () -> taking.ran(2), Math.min(limit, 2));
        }
        taking.forget();
        Checks.due("taken by that run", () -> taking.ran(2), 2);
        taking.run(500);
        Checks.due("none there", () -> taking.ran(2), 0);
        Checks.sentence("10 to 15: a VARIABLE (0 if UNSET), 20 to 27: CELLS of A, then of B; 30 to 35: 1 if"
            + " a VARIABLE is UNSET, else 0");
        AlarmForge full = behindRun("a=-1;b=0;c=3;A[0]=4;A[1]=5;A[3]=6;B[0]=7;B[2]=8;B[3]=9;f=10;e=d;");
        int[] variables = {-1, 0, 3, 0, 0, 10};
        int[] unset = {0, 0, 0, 1, 1, 0};
        int[] cells = {4, 5, 0, 6, 7, 0, 8, 9};
        for (int k = 0; k < 6; k++) {
            int n = k;
            Checks.due("variable " + n, () -> full.ran(10 + n), variables[n]);
            Checks.due("unset " + n, () -> full.ran(30 + n), unset[n]);
        }
        for (int k = 0; k < 8; k++) {
            int n = k;
            Checks.due("cell " + n, () -> full.ran(20 + n), cells[n]);
        }
    }

    private static AlarmForge behindRun(String text) {
        AlarmForge forge = Checks.parsed(text);
        Checks.answer(() -> forge.run(500));
        return forge;
    }

    private static void ranOthers() {
        Checks.sentence("IllegalArgumentException for others.");
        int[] others = {-1, 3, 4, 9, 16, 19, 28, 29, 36, 100, Checks.LEAST, Checks.MOST};
        for (int what : others) {
            Checks.refused("ran " + what, () -> withInputs(3), x -> x.ran(what), "IllegalArgument");
            Checks.due("ran " + what + " before a run", () -> new AlarmForge().ran(what), "IllegalArgument");
        }
        for (int what = -3; what <= 50; what++) {
            int w = what;
            Checks.same("ran " + w, Checks.answer(() -> withInputs(3).ran(w)).equals("IllegalArgument"), !isKnown(w));
        }
    }
}
