/** Promises 11 and 12: STATES, POINTS and the order of WARNINGS. */
public final class AnalyseTest {
    public static void main(String[] args) {
        wrongCalls();
        nothingToWarnOf();
        unset();
        reading();
        storing();
        branches();
        asserts();
        behindNothing();
        orderOfWarnings();
        latestOnly();
        Checks.end();
    }

    private static void wrongCalls() {
        AlarmForge forge = new AlarmForge();
        Checks.due("nothing parsed", forge::analyse, "IllegalState");
        Checks.due("no warning", () -> forge.warning(0), "IndexOutOfBounds");
        AlarmForge two = Checks.parsed("a=b;a=1/0;");
        Checks.due("not gone through", () -> two.warning(0), "IndexOutOfBounds");
        AlarmForge one = Checks.analysed("b=in;a=1/b;");
        Checks.due("the first", () -> one.warning(0), 4 * 1024 + 8);
        Checks.due("behind the last", () -> one.warning(1), "IndexOutOfBounds");
        Checks.due("before the first", () -> one.warning(-1), "IndexOutOfBounds");
        Checks.due("far behind", () -> one.warning(Integer.MAX_VALUE), "IndexOutOfBounds");
        Checks.due("far before", () -> one.warning(Integer.MIN_VALUE), "IndexOutOfBounds");
    }

    private static void nothingToWarnOf() {
        Checks.due("empty", Checks.parsed("")::analyse, 0);
        Checks.due("plain", Checks.parsed("a=in;b=a/2;A[3]=b;assert(0<=a*0);")::analyse, 0);
        Checks.due("guarded", Checks.parsed("a=in;if(0<=a){if(a<4){A[a]=7/(a+1);}}")::analyse, 0);
        Checks.due("odd", Checks.parsed("a=in;a=a%100*2+1;b=9/a;")::analyse, 0);
    }

    private static void unset() {
        Checks.warns("a=b;", "1@2");
        Checks.leaves("a=b;", "a", "dead");
        Checks.warns("a=in;if(a<0){b=1;}c=b;d=b;", "1@20 1@24");
        Checks.leaves("a=in;if(a<0){b=1;}c=b;", "c", "1..1 0 1");
        AlarmForge forge = Checks.analysed("a=in;if(a<0){b=1;}c=b;");
        Checks.due("may still be unset", () -> forge.left(1, 4), 1);
        Checks.due("set by what is read", () -> forge.left(2, 4), 0);
        Checks.warns("c=in;if(c<0){a=1;}b=a;", "1@20");
        Checks.warns("c=in;if(c<0){}else{f=1;}b=f;", "1@26");
        Checks.warns("c=in;while(c<0){a=1;c=in;}b=a;", "1@28");
        Checks.warns("c=in;a=1;if(c<0){c=a;}b=a;", "");
        Checks.warns("a=in;if(a<0){b=1;}b=2;c=b;", "");
        Checks.warns("a=in;if(a<0){b=1;}else{b=2;}c=b;", "");
        Checks.warns("a=in;if(a<0){b=1;}assert(b==1);c=b;", "1@25 1@33");
    }

    private static void reading() {
        Checks.leaves("A[0]=4;A[1]=7;a=A[0];", "a", "4..4 0 4");
        Checks.leaves("A[0]=4;A[1]=7;a=in;if(a<0){b=0;}else{b=1;}c=A[b];", "c", "4..7 3 1");
        Checks.warns("A[0]=4;A[1]=7;a=in;if(a<0){b=0;}else{b=1;}c=A[b];", "");
        Checks.leaves("A[0]=4;A[2]=8;a=in;if(a<0){b=0;}else{b=2;}c=A[b];", "c", "4..8 4 0");
        Checks.leaves("B[3]=9;a=in;b=B[a];", "b", "0..9 9 0");
        Checks.warns("B[3]=9;a=in;b=B[a];", "2@14");
        Checks.leaves("B[3]=9;a=in;assert(3<=a);b=B[a];", "b", "9..9 0 9");
        Checks.warns("a=A[4];b=c;", "2@2");
        Checks.leaves("a=A[4];", "a", "dead");
        Checks.warns("a=A[-1];", "2@2");
        Checks.warns("a=in;a=a%2*4+2;b=A[a];", "2@17");
        Checks.warns("a=in;b=A[A[a]];", "2@9");
        Checks.leaves("a=in;b=A[A[a]];", "b", "0..0 0 0");
    }

    private static void storing() {
        Checks.leaves("A[2]=5;A[2]=9;", "A2", "9..9 0 9");
        Checks.leaves("A[2]=5;", "A1", "0..0 0 0");
        Checks.leaves("A[2]=5;", "B2", "0..0 0 0");
        Checks.leaves("B[0]=5;", "B0", "5..5 0 5");
        String two = "a=in;if(a<0){b=0;}else{b=2;}A[0]=6;A[b]=3;";
        Checks.leaves(two, "A0", "3..6 3 0");
        Checks.leaves(two, "A1", "0..0 0 0");
        Checks.leaves(two, "A2", "0..3 3 0");
        Checks.warns(two, "");
        Checks.warns("a=in;A[a]=3;", "2@5");
        Checks.leaves("a=in;A[a]=3;", "A3", "0..3 3 0");
        // Only one CELL is left of these, and what is stored there is all that it has.
        Checks.leaves("a=in;assert(3<=a);A[a]=8;", "A3", "8..8 0 8");
        Checks.leaves("a=in;assert(a<=0);A[a]=8;", "A0", "8..8 0 8");
        Checks.leaves("A[4]=1;", "A0", "dead");
        Checks.warns("A[4]=1;a=b;", "2@0");
        Checks.warns("A[4]=b;", "2@0 1@5");
        Checks.warns("A[b]=c;", "1@2");
        Checks.leaves("A[b]=c;", "A0", "dead");
        Checks.warns("A[b]=1;c=d;", "1@2");
        Checks.warns("A[0]=1/0;a=b;", "4@6");
        Checks.leaves("A[0]=1/0;", "A0", "dead");
    }

    private static void branches() {
        Checks.leaves("a=1;if(a<2){b=3;}else{b=4;}", "b", "3..3 0 3");
        Checks.leaves("a=2;if(a<2){b=3;}else{b=4;}", "b", "4..4 0 4");
        Checks.warns("a=2;if(a<2){b=c;}else{b=4;}", "");
        Checks.warns("a=in;if(a<2){b=c;}else{b=4;}d=b;", "1@15");
        Checks.leaves("a=in;if(a<2){b=c;}else{b=4;}d=a;", "d", "2..2147483647 1 0");
        Checks.leaves("a=in;if(a<2){b=1/0;}else{b=A[5];}", "a", "dead");
        Checks.warns("a=in;if(a<2){b=1/0;}else{b=A[5];}c=d;", "4@16 2@27");
        Checks.leaves("a=in;if(a<2){if(a<1){b=1;}else{b=2;}}else{b=5;}", "b", "1..5 1 0");
        Checks.leaves("a=in;if(a<0){A[1]=4;}", "A1", "0..4 4 0");
    }

    private static void asserts() {
        Checks.warns("a=in;assert(a<5);assert(a<6);", "5@5");
        Checks.warns("assert(1<2);", "");
        Checks.warns("assert(2<1);a=b;", "5@0");
        Checks.leaves("assert(2<1);", "A0", "dead");
        Checks.leaves("a=in;assert(a==6);", "a", "6..6 0 6");
        Checks.warns("a=in;assert(6==a);assert(a==6);assert(a!=7);", "5@5");
        Checks.warns("if(0==0){if(0==0){if(0==0){a=in;assert(a<1);}}}", "5@32");
        Checks.leaves("if(0==0){if(0==0){if(0==0){a=in;assert(a<1);}}}", "a", "-2147483648..0 1 0");
        Checks.warns("assert(a<1);", "1@7");
    }

    private static void behindNothing() {
        Checks.warns("a=1/0+b;", "4@3");
        Checks.warns("a=b+1/0;", "1@2");
        Checks.warns("a=in;if(a<0){b=1;}c=b+1/0+d;", "1@20 4@23");
        Checks.warns("a=999999999*9+b;", "3@11");
        Checks.warns("a=in;b=a*9+a;", "3@8 3@10");
        Checks.warns("a=1-A[7]-b;", "2@4");
        Checks.warns("while(1/0<a){b=c;}", "4@7");
    }

    private static void orderOfWarnings() {
        Checks.warns("a=in;b=in;a=a/b+a%b+A[a]-c;", "3@13 4@13 3@15 4@17 2@20 1@25");
        AlarmForge forge = Checks.analysed("a=in;b=in;a=a/b;");
        Checks.due("how many", forge::analyse, 2);
        Checks.due("OVER first", () -> forge.warning(0), 3 * 1024 + 13);
        Checks.due("then ZERO", () -> forge.warning(1), 4 * 1024 + 13);
        String far = " ".repeat(191) + "a=1;b=1/0";
        AlarmForge end = Checks.analysed(far.substring(1) + ";");
        Checks.due("far behind", () -> end.warning(0), 4 * 1024 + 197);
    }

    private static void latestOnly() {
        AlarmForge forge = Checks.analysed("a=b;");
        forge.clear();
        Checks.write(forge, "a=1;");
        forge.parse();
        Checks.due("of the latest going through", () -> forge.warning(0), 1024 + 2);
        Checks.due("none now", forge::analyse, 0);
        Checks.due("gone", () -> forge.warning(0), "IndexOutOfBounds");
        AlarmForge first = Checks.parsed("A[4]=1;");
        Checks.due("at the first place", first::analyse, 1);
        Checks.due("and again", first::analyse, 1);
        Checks.due("as before", () -> first.warning(0), 2 * 1024);
        forge.input(5);
        Checks.due("inputs do not matter", forge::analyse, 0);
    }
}
