/** Boundary cases of STATES: EXPRS, STATEMENTS and CONDS in them, whiles, and WARNINGS. */
public final class StateEdgesTest {
    private static final String ALL = Checks.ALL;
    private static final String MIN = Checks.LEAST_INT;
    private static final String MAX = Checks.MOST_INT;

    public static void main(String[] args) {
        becomesDead();
        joinsByParts();
        joinsWithDead();
        variableRead();
        cellRead();
        nothingMoreIsLookedAt();
        goesOnBehind();
        variableSet();
        cellSet();
        equal();
        unequal();
        below();
        atMost();
        tightOrDead();
        otherWayRound();
        variableAlone();
        ifs();
        asserts();
        joinedWithBefore();
        whilesThatAreOver();
        unrolled();
        patience();
        narrowed();
        goesOnFromNotTaken();
        onlyTheLastTime();
        asOftenAsThatIs();
        Checks.end();
    }

    private static AlarmForge with(int unroll, int narrow, String text) {
        AlarmForge forge = Checks.parsed(text);
        forge.choose(0, unroll);
        forge.choose(1, narrow);
        forge.analyse();
        return forge;
    }

    private static void leaves(int unroll, int narrow, String text, String name, String due) {
        Checks.same(unroll + " " + narrow + " " + text, Checks.valueOf(with(unroll, narrow, text), name), due);
    }

    private static void unsetLeft(String text, String due) {
        AlarmForge forge = Checks.analysed(text);
        StringBuilder got = new StringBuilder();
        for (int k = 0; k < 6; k++) {
            got.append(forge.left(k, 4));
        }
        Checks.same("may be unset behind " + text, got.toString(), due);
    }

    private static void becomesDead() {
        Checks.sentence("DEAD becomes what has nothing to go on with: an EXPR that is NOTHING.");
        String[] dead = {"a=1^4/0;", "a=^1b;", "a=^2A[4];", "a=99999^3*99999;", "A[1^4/0]=1;", "A[^1b]=1;",
            "A[1]=1^4/0;", "if(1^4/0<1){}", "if(1<1^4/0){}", "if(^1a<1){}else{}", "while(1^4/0<1){}", "while(1<^1a){}",
            "assert(1^4/0<1);", "assert(1<1^4/0);", "^5assert(1<1);"};
        for (String text : dead) {
            Checks.warnsAsMarked(text + "c=d;");
            Checks.leaves(Checks.plainOf(text), "B3", "dead");
        }
        Checks.warnsAsMarked("a=^1b/0;");
        Checks.leaves("", "B3", "0..0 0 0");
    }

    private static void joinsByParts() {
        Checks.sentence("JOIN and WIDEN go by all parts (MAY BE UNSET if it may in one)");
        unsetLeft("", "111111");
        unsetLeft("a=in;if(a<0){b=1;c=1;}else{c=2;d=2;}", "010111");
        unsetLeft("b=in;if(b<0){a=1;}else{}", "101111");
        unsetLeft("b=in;if(b<0){}else{a=1;}", "101111");
        unsetLeft("a=in;if(a<0){f=1;}else{}", "011111");
        unsetLeft("a=in;if(a<0){}else{f=1;}", "011111");
        unsetLeft("a=in;if(a<0){f=1;}else{f=2;}", "011110");
        unsetLeft("a=in;while(a<0){b=1;a=a+1;}", "011111");
        unsetLeft("a=in;b=1;while(a<0){b=2;a=a+1;}", "001111");
        String parts = "a=in;if(a<0){b=1;A[0]=4;B[3]=6;}else{b=5;A[0]=7;}";
        Checks.leaves(parts, "b", "1..5 4 1");
        Checks.leaves(parts, "A0", "4..7 3 1");
        Checks.leaves(parts, "A1", "0..0 0 0");
        Checks.leaves(parts, "B3", "0..6 6 0");
        leaves(0, 0, "a=in;while(a!=0){a=in;B[3]=B[3]+1;A[0]=2;}", "B3", "0..2147483647 1 0");
        leaves(0, 0, "a=in;while(a!=0){a=in;B[3]=B[3]+1;A[0]=2;}", "A0", "0..10 2 0");
    }

    private static void joinsWithDead() {
        Checks.sentence("one with DEAD is the other one");
        for (String text : new String[] {"a=in;if(a<0){b=1/0;}else{b=2;}", "a=in;if(0<=a){b=2;}else{b=1/0;}"}) {
            Checks.leaves(text, "a", "0..2147483647 1 0");
            Checks.leaves(text, "b", "2..2 0 2");
            unsetLeft(text, "001111");
        }
        Checks.leaves("a=in;if(a<0){b=1/0;}else{b=A[4];}", "a", "dead");
        Checks.leaves("a=in;if(a<0){b=c;}", "a", "0..2147483647 1 0");
        leaves(0, 0, "a=in;while(a<0){b=1/0;}", "a", "0..2147483647 1 0");
        leaves(0, 0, "a=in;while(a<0){b=1/0;}", "b", "nothing");
    }

    private static void variableRead() {
        Checks.sentence("a VARIABLE its VALUE (UNSET, if it MAY BE UNSET)");
        for (char c = 'b'; c <= 'f'; c++) {
            Checks.warnsAsMarked("a=in;if(a<0){" + c + "=1;}a=^1" + c + ";");
            Checks.warnsAsMarked("a=in;if(a<0){" + c + "=1;}else{" + c + "=2;}a=" + c + ";");
            Checks.warnsAsMarked("a=^1" + c + ";");
        }
        Checks.leaves("a=in;if(a<0){b=1;}a=b;", "a", "1..1 0 1");
        unsetLeft("a=in;if(a<0){b=1;}a=b;", "011111");
    }

    private static void cellRead() {
        Checks.sentence("ARRAY [ e ]: INDEX, if e has ints beyond 0..3; JOIN of all CELLS whose number is one of e");
        Checks.warnsAsMarked(Checks.range('a', 0, 3) + "b=A[a];");
        Checks.warnsAsMarked(Checks.range('a', 0, 4) + "b=^2A[a];");
        Checks.warnsAsMarked(Checks.range('a', -1, 3) + "b=^2A[a];");
        Checks.warnsAsMarked(Checks.range('a', 4, 9) + "b=^2A[a];c=d;");
        Checks.warnsAsMarked("b=A[0]+A[3];");
        Checks.warnsAsMarked("b=^2A[4];c=d;");
        Checks.warnsAsMarked("b=^2A[-1];c=d;");
        String cells = "A[0]=10;A[1]=20;A[2]=50;A[3]=90;";
        Checks.leaves(cells + Checks.range('a', 0, 3) + "b=A[a];", "b", "10..90 10 0");
        Checks.leaves(cells + Checks.range('a', 1, 2) + "b=A[a];", "b", "20..50 30 20");
        Checks.leaves(cells + Checks.range('a', 3, 9) + "b=A[a];", "b", "90..90 0 90");
        Checks.leaves(cells + Checks.range('a', -9, 0) + "b=A[a];", "b", "10..10 0 10");
        Checks.leaves(cells + Checks.rests('a', 3, 3, 0) + "b=A[a];", "b", "10..90 80 10");
        Checks.leaves(cells + Checks.rests('a', 3, 2, 1) + "b=A[a];", "b", "20..90 70 20");
        Checks.leaves(cells + Checks.range('a', 4, 9) + "b=A[a];", "b", "dead");
        // Of -3, 5 and 13 none is the number of a CELL.
        Checks.leaves(Checks.rests('a', 1, 8, 5) + "b=A[a];", "b", "dead");
        Checks.leaves("A[0]=7;b=B[0];", "b", "0..0 0 0");
    }

    private static void nothingMoreIsLookedAt() {
        Checks.sentence("(NOTHING, and nothing more is looked at, if something is NOTHING)");
        Checks.warnsAsMarked("a=1^4/0+b;");
        Checks.warnsAsMarked("a=1^4%0-A[9];");
        Checks.warnsAsMarked("a=^1b*(1/0);");
        Checks.warnsAsMarked("a=^2A[7]+b;");
        Checks.warnsAsMarked("a=99999^3*99999/0;");
        Checks.warnsAsMarked("a=A[^1b]+c;");
        Checks.warnsAsMarked("a=-(1^4/0)+b;");
        Checks.warnsAsMarked("if(1^4/0<b){}else{}");
        Checks.warnsAsMarked("A[^1b]=c;");
        Checks.warnsAsMarked("a=in;if(a<0){b=1;}c=1+^1b;");
    }

    private static void goesOnBehind() {
        Checks.sentence("Behind UNSET and OVER it goes on with what is left.");
        Checks.warnsAsMarked("a=in;if(a<0){b=0;}c=7^4/^1b;");
        Checks.warnsAsMarked("a=in;b=a^3*2^3+a^3*a;");
        Checks.leaves("a=in;if(a<0){b=5;}c=b+1;", "c", "6..6 0 6");
        Checks.leaves("a=in;c=a*2;", "c", "-2147483648..2147483646 2 0");
        Checks.leaves("a=in;assert(9<a);c=a*99999;", "c", "999990..2147483647 1 0");
        Checks.leaves("a=in;assert(9<a);c=a*60000;", "c", "600000..2147460000 60000 0");
    }

    private static void variableSet() {
        Checks.sentence("VARIABLE = e: its VALUE, no more UNSET; = in: all ints.");
        unsetLeft("a=1;", "011111");
        unsetLeft("f=in;", "111110");
        unsetLeft("a=1;b=2;c=3;d=4;e=5;f=6;", "000000");
        unsetLeft("a=in;if(a<0){b=1;}b=2;", "001111");
        unsetLeft("a=in;if(a<0){b=1;}b=in;", "001111");
        Checks.leaves("a=1;a=2;", "a", "2..2 0 2");
        Checks.leaves("a=1;a=in;", "a", ALL);
        Checks.leaves("a=in;a=a%5;b=a;", "b", "-4..4 1 0");
    }

    private static void cellSet() {
        Checks.sentence("ARRAY [ i ] = e: INDEX likewise; if i is of one CELL that has the VALUE of e,"
            + " else all CELLS that i may be JOIN with it; DEAD, if there is none.");
        Checks.warnsAsMarked(Checks.range('a', 0, 3) + "B[a]=1;");
        Checks.warnsAsMarked(Checks.range('a', 0, 4) + "^2B[a]=1;");
        Checks.warnsAsMarked(Checks.range('a', -1, 3) + "^2B[a]=1;");
        Checks.warnsAsMarked("^2B[4]=1;a=b;");
        Checks.warnsAsMarked("^2B[-1]=1;a=b;");
        for (int cell = 0; cell < 4; cell++) {
            Checks.leaves("B[" + cell + "]=5;B[" + cell + "]=8;", "B" + cell, "8..8 0 8");
            Checks.leaves("B[" + cell + "]=5;", "A" + cell, "0..0 0 0");
            Checks.leaves("B[" + cell + "]=5;", "B" + (cell + 1) % 4, "0..0 0 0");
        }
        String two = "B[0]=5;B[1]=5;B[2]=5;B[3]=5;" + Checks.range('a', 1, 2) + "B[a]=8;";
        Checks.leaves(two, "B0", "5..5 0 5");
        Checks.leaves(two, "B1", "5..8 3 2");
        Checks.leaves(two, "B2", "5..8 3 2");
        Checks.leaves(two, "B3", "5..5 0 5");
        Checks.leaves(Checks.range('a', 3, 9) + "B[a]=8;", "B3", "8..8 0 8");
        Checks.leaves(Checks.range('a', -9, 0) + "B[a]=8;", "B0", "8..8 0 8");
        Checks.leaves(Checks.rests('a', 3, 3, 0) + "B[a]=8;", "B0", "0..8 8 0");
        Checks.leaves(Checks.rests('a', 3, 3, 0) + "B[a]=8;", "B1", "0..0 0 0");
        Checks.leaves(Checks.range('a', 4, 9) + "B[a]=8;", "B0", "dead");
        Checks.leaves("B[-1]=8;", "B0", "dead");
        // That there is no CELL is looked at behind e.
        Checks.warnsAsMarked("^2B[4]=^1b;");
        Checks.warnsAsMarked("^2B[4]=1^4/0;");
    }

    private static void equal() {
        Checks.sentence("== : MEET of x and y for both");
        Checks.leaves("a=in;assert(a==" + MIN + ");", "a", "-2147483648..-2147483648 0 -2147483648");
        Checks.leaves("a=in;assert(" + MAX + "==a);", "a", "2147483647..2147483647 0 2147483647");
        Checks.leaves("a=in;b=5;assert(a==b);", "a", "5..5 0 5");
        Checks.leaves("a=5;b=in;assert(a==b);", "b", "5..5 0 5");
        Checks.leaves("a=in;assert(a==a);", "a", ALL);
    }

    private static void unequal() {
        Checks.sentence("!= : if y has m 0: lo of x that is y's r becomes 1 more, hi 1 less (DEAD if it was"
            + " that alone),"
            + " then for y by x as it was likewise");
        String some = Checks.range('a', 2, 6);
        Checks.leaves(some + "assert(a!=1);", "a", "2..6 1 0");
        Checks.leaves(some + "assert(a!=2);", "a", "3..6 1 0");
        Checks.leaves(some + "assert(a!=3);", "a", "2..6 1 0");
        Checks.leaves(some + "assert(a!=6);", "a", "2..5 1 0");
        Checks.leaves(some + "assert(a!=7);", "a", "2..6 1 0");
        Checks.leaves(some + "assert(2!=a);", "a", "3..6 1 0");
        Checks.leaves(some + "assert(6!=a);", "a", "2..5 1 0");
        Checks.leaves("a=in;assert(a!=" + MIN + ");", "a", "-2147483647..2147483647 1 0");
        Checks.leaves("a=in;assert(" + MAX + "!=a);", "a", "-2147483648..2147483646 1 0");
        Checks.leaves(Checks.range('a', 2, 3) + "assert(a!=2);", "a", "3..3 0 3");
        Checks.leaves(Checks.range('a', 2, 3) + "assert(3!=a);", "a", "2..2 0 2");
        Checks.leaves("a=2;assert(a!=2);", "a", "dead");
        Checks.leaves("a=2;b=2;assert(a!=b);", "b", "dead");
        Checks.leaves("a=2;b=3;assert(a!=b);", "b", "3..3 0 3");
        Checks.leaves(Checks.range('a', 0, 1) + "assert(a!=1);b=a;", "b", "0..0 0 0");
        Checks.leaves(some + Checks.range('b', 2, 6) + "assert(a!=b);", "b", "2..6 1 0");
    }

    private static void below() {
        Checks.sentence("< : hi of x becomes the lesser one of it and y's hi - 1, lo of y the greater one"
            + " of it and x's lo + 1 (as it was)");
        String two = Checks.range('a', 2, 9) + Checks.range('b', 0, 6);
        Checks.leaves(two + "assert(a<b);", "a", "2..5 1 0");
        Checks.leaves(two + "assert(a<b);", "b", "3..6 1 0");
        Checks.leaves(two + "assert(b<a);", "a", "2..9 1 0");
        Checks.leaves(two + "assert(b<a);", "b", "0..6 1 0");
        Checks.leaves(Checks.range('a', 2, 9) + "assert(a<3);", "a", "2..2 0 2");
        Checks.leaves(Checks.range('a', 2, 9) + "assert(a<2);", "a", "dead");
        Checks.leaves(Checks.range('a', 2, 9) + "assert(8<a);", "a", "9..9 0 9");
        Checks.leaves(Checks.range('a', 2, 9) + "assert(9<a);", "a", "dead");
        Checks.leaves("a=in;assert(a<" + MIN + ");", "a", "dead");
        Checks.leaves("a=in;assert(" + MAX + "<a);", "a", "dead");
        Checks.leaves("a=in;assert(a<1+" + MIN + ");", "a", "-2147483648..-2147483648 0 -2147483648");
        Checks.leaves("a=in;b=in;assert(a<b);", "a", "-2147483648..2147483646 1 0");
        Checks.leaves("a=in;b=in;assert(a<b);", "b", "-2147483647..2147483647 1 0");
        Checks.leaves("a=5;assert(a<a);", "a", "dead");
    }

    private static void atMost() {
        Checks.sentence("<= likewise without 1");
        String two = Checks.range('a', 2, 9) + Checks.range('b', 0, 6);
        Checks.leaves(two + "assert(a<=b);", "a", "2..6 1 0");
        Checks.leaves(two + "assert(a<=b);", "b", "2..6 1 0");
        Checks.leaves(Checks.range('a', 2, 9) + "assert(a<=2);", "a", "2..2 0 2");
        Checks.leaves(Checks.range('a', 2, 9) + "assert(a<=1);", "a", "dead");
        Checks.leaves(Checks.range('a', 2, 9) + "assert(9<=a);", "a", "9..9 0 9");
        Checks.leaves(Checks.range('a', 2, 9) + "assert(10<=a);", "a", "dead");
        Checks.leaves("a=in;assert(a<=" + MIN + ");", "a", "-2147483648..-2147483648 0 -2147483648");
        Checks.leaves("a=in;assert(" + MAX + "<=a);", "a", "2147483647..2147483647 0 2147483647");
        Checks.leaves("a=5;assert(a<=a);", "a", "5..5 0 5");
    }

    private static void tightOrDead() {
        Checks.sentence("PUT TIGHT; DEAD if one is NOTHING.");
        String fours = Checks.rests('a', 4, 4, 1);
        Checks.leaves(fours + "assert(a<13);", "a", "-15..9 4 1");
        Checks.leaves(fours + "assert(a<14);", "a", "-15..13 4 1");
        Checks.leaves(fours + "assert(a!=17);", "a", "-15..13 4 1");
        Checks.leaves(fours + "assert(-15!=a);", "a", "-11..17 4 1");
        Checks.leaves(fours + "b=in;b=b%9;assert(a==b);", "b", "-7..5 4 1");
        Checks.leaves(fours + "assert(13<a);", "a", "17..17 0 17");
        Checks.leaves(fours + "assert(17<a);", "a", "dead");
        Checks.leaves(fours + "b=-15;assert(a<b);", "b", "dead");
        Checks.leaves("assert(2<=1);", "A0", "dead");
        Checks.leaves("assert(A[0]!=0);", "A0", "dead");
        Checks.leaves("assert(A[0]+1==0);", "A0", "dead");
    }

    private static void otherWayRound() {
        Checks.sentence("(or, for not, as the other way round: == and != change, a < b becomes b <= a, a <="
            + " b becomes b < a)");
        String some = Checks.range('a', 2, 6);
        Checks.leaves(some + "if(a==2){a=4;}", "a", "3..6 1 0");
        Checks.leaves(some + "if(6==a){a=4;}", "a", "2..5 1 0");
        Checks.leaves(some + "if(a!=3){a=3;}", "a", "3..3 0 3");
        Checks.leaves(some + "if(a<4){a=5;}", "a", "4..6 1 0");
        Checks.leaves(some + "if(a<=4){a=5;}", "a", "5..6 1 0");
        Checks.leaves(some + "if(4<a){a=3;}", "a", "2..4 1 0");
        Checks.leaves(some + "if(4<=a){a=3;}", "a", "2..3 1 0");
        Checks.leaves(some + "if(a<2){}else{b=1;}", "b", "1..1 0 1");
        Checks.warnsAsMarked(some + "if(a<2){b=c;}if(a<=1){b=c;}if(6<a){b=c;}if(7<=a){b=c;}");
        Checks.warnsAsMarked(some + "if(a<7){}else{b=c;}if(a<=6){}else{b=c;}if(1<a){}else{b=c;}if(2<=a){}else{b=c;}");
        Checks.warnsAsMarked("a=2;if(a==2){}else{b=c;}if(a!=2){b=c;}if(a==3){b=c;}if(a!=3){}else{b=c;}");
    }

    private static void variableAlone() {
        Checks.sentence("If e is a VARIABLE alone (also in brackets) that has x then, then e' likewise y.");
        Checks.leaves("a=in;assert((a)<5);", "a", "-2147483648..4 1 0");
        Checks.leaves("a=in;assert(4<((((((((((a)))))))))));", "a", "5..2147483647 1 0");
        Checks.leaves("a=in;assert(a+0<5);", "a", ALL);
        Checks.leaves("a=in;assert(a*1<5);", "a", ALL);
        Checks.leaves("a=in;assert(5<--a);", "a", ALL);
        Checks.leaves("a=in;A[1]=a;assert(A[1]<5);", "A1", ALL);
        Checks.leaves("a=in;b=in;assert(a<b+0);", "a", "-2147483648..2147483646 1 0");
        Checks.leaves("a=in;b=in;assert(a<b+0);", "b", ALL);
        Checks.warnsAsMarked("a=in;if(a<0){b=1;}assert(^1b==1);c=^1b;");
        // The same one on both sides has that of the second one.
        Checks.leaves(Checks.range('a', 2, 6) + "assert(a<a);", "a", "3..6 1 0");
        Checks.leaves(Checks.range('a', 2, 6) + "if(a<=a){a=9;}", "a", "3..9 1 0");
        Checks.leaves(Checks.range('a', 2, 6) + "assert(a<=a);", "a", "2..6 1 0");
    }

    private static void ifs() {
        Checks.sentence("if: both BLOCKS from their COND TAKEN or not; JOIN.");
        Checks.leaves("a=in;if(a<5){b=a;}else{b=a;}", "b", ALL);
        Checks.leaves("a=in;if(a<5){b=a;}else{b=7;}", "b", "-2147483648..7 1 0");
        Checks.leaves("if(1<2){b=1;}else{b=2;}", "b", "1..1 0 1");
        Checks.leaves("if(2<2){b=1;}else{b=2;}", "b", "2..2 0 2");
        Checks.leaves("a=in;if(a<5){}else{}", "a", ALL);
        Checks.leaves("if(1<2){if(1<2){if(1<2){a=1;}else{a=2;}}else{a=3;}}else{a=4;}", "a", "1..1 0 1");
        String deep = "c=in;if(c<1){if(c<0){if(c<-1){a=1;}else{a=5;}}else{a=9;}}else{a=13;}";
        Checks.leaves(deep, "a", "1..13 4 1");
        Checks.leaves(deep, "c", ALL);
        String elses = "c=in;if(c<1){a=1;}else{if(c<2){a=5;}else{if(c<3){a=9;}else{a=13;}}}";
        Checks.leaves(elses, "a", "1..13 4 1");
        Checks.leaves(elses, "c", ALL);
        String around = "c=in;if(c<1){a=0;while(a<5){if(a<3){a=a+1;}else{a=a+2;}}}else{a=9;}";
        Checks.leaves(around, "a", "5..9 1 0");
        Checks.leaves(around, "c", ALL);
    }

    private static void asserts() {
        Checks.sentence("assert: FALSE, if the COND not TAKEN is not DEAD; goes on with it TAKEN.");
        Checks.warnsAsMarked(Checks.range('a', 2, 6) + "assert(a<7);^5assert(a<6);assert(a<6);");
        Checks.warnsAsMarked(Checks.range('a', 2, 6) + "assert(1<a);^5assert(2<a);assert(2<a);");
        Checks.warnsAsMarked(Checks.range('a', 2, 6) + "assert(a<=6);^5assert(a<=5);assert(a!=6);");
        Checks.warnsAsMarked(Checks.range('a', 2, 6) + "assert(a!=7);^5assert(a==2);assert(a==2);");
        // What lies between the ends is not taken away, and so is warned of again.
        Checks.warnsAsMarked(Checks.range('a', 2, 6) + "^5assert(a!=4);^5assert(a!=4);");
        Checks.warnsAsMarked("a=2;assert(a==2);^5assert(a!=2);b=c;");
        Checks.leaves("a=in;assert(a<5);", "a", "-2147483648..4 1 0");
        String deep = "a=in;if(a<5){if(a<4){if(a<3){^5assert(0<=a);assert(a<3);b=a;}}}";
        Checks.warnsAsMarked(deep);
        Checks.leaves(Checks.plainOf(deep), "b", "0..2 1 0");
        unsetLeft("if(0<1){if(0<1){a=0;while(a<5){assert(a<9);a=a+1;c=7;}}}", "011111");
    }

    private static void passes(int unroll, int narrow, String text, int due) {
        Checks.same("passes " + unroll + " " + narrow + " " + text, with(unroll, narrow, text).count(3), due);
    }

    private static void whilesThatAreOver() {
        Checks.sentence("if JOIN of V and W is V it is over");
        passes(0, 0, "a=in;while(a<5){a=in;}", 2);
        passes(5, 0, "a=in;while(a<5){a=in;}", 2);
        passes(0, 0, "a=5;while(a<5){a=6;}", 2);
        passes(0, 0, "while(1<2){}", 2);
        passes(0, 0, "a=in;while(a<5){b=1;a=in;}", 3);
        passes(0, 0, "a=in;while(a<5){A[3]=1;a=in;}", 3);
        passes(0, 0, "a=in;while(a<5){b=1;a=in;if(b<9){c=2;}}", 3);
        AlarmForge again = with(0, 0, "b=1;");
        again.clear();
        Checks.write(again, "a=in;while(a<9){b=1;a=in;}");
        again.parse();
        again.analyse();
        Checks.due("not by what was before", () -> again.count(3), 3);
        Checks.same("which is gone", Checks.valueOf(again, "b"), "1..1 0 1");
    }

    private static void joinedWithBefore() {
        Checks.sentence("W is JOIN of the STATE before and what the BLOCK leaves from V with the COND TAKEN");
        leaves(5, 0, "a=in;b=1;while(a<5){a=5;b=9;}", "b", "1..9 8 1");
        leaves(1, 5, "a=in;b=1;while(a<5){a=5;b=9;}", "b", "1..9 8 1");
        leaves(1, 1, "a=in;b=1;while(a<5){a=5;b=a;}", "b", "1..5 4 1");
        leaves(1, 1, "a=in;b=1;while(a<5){b=a;a=5;}", "b", "-2147483648..4 1 0");
        leaves(1, 1, "a=6;b=1;while(a<5){b=2;}", "b", "1..1 0 1");
        leaves(1, 1, "a=in;b=1;while(a<5){b=1/0;}", "b", "1..1 0 1");
        leaves(1, 1, "a=in;while(a<5){a=a+1;b=1;}", "b", "1..1 0 1");
    }

    private static void unrolled() {
        Checks.sentence("V becomes that JOIN, or, with k above UNROLL, WIDEN of V by W");
        String five = "a=0;while(a<5){a=a+1;}";
        int[] due = {4, 4, 5, 6, 7, 7};
        for (int unroll = 0; unroll <= 5; unroll++) {
            passes(unroll, 0, five, due[unroll]);
            leaves(unroll, 0, five, "a", unroll == 5 ? "5..5 0 5" : "5..10 1 0");
        }
        leaves(5, 0, "a=0;while(a<6){a=a+1;}", "a", "6..10 1 0");
        leaves(0, 0, "a=11;while(a<12){a=a+1;}", "a", "12..100 1 0");
        leaves(1, 0, "a=11;while(a<12){a=a+1;}", "a", "12..12 0 12");
        leaves(1, 0, "a=11;while(a<13){a=a+1;}", "a", "13..100 1 0");
        leaves(2, 0, "a=11;while(a<13){a=a+1;}", "a", "13..13 0 13");
    }

    private static void patience() {
        Checks.sentence("with k above 20 all VARIABLES and CELLS of it being all ints besides (MAY BE UNSET"
            + " as by JOIN)");
        String slow = "a=0;b=0;c=0;d=0;e=0;f=0;while(B[0]!=1){a=a+1;if(99<a){b=b+1;}if(99<b){c=c+1;}"
            + "if(99<c){d=d+1;}if(99<d){e=e+1;}if(99<e){f=f+1;}}";
        passes(2, 0, slow, 22);
        leaves(2, 0, slow, "A1", "dead");
        passes(3, 0, slow, 23);
        for (String name : new String[] {"a", "f", "A0", "A3", "B0", "B3"}) {
            leaves(3, 0, slow, name, ALL);
        }
        AlarmForge open = with(5, 0, slow.replace("f=0;", "").replace("f=f+1", "A[1]=A[1]+1"));
        Checks.same("one that is never set", Checks.valueOf(open, "f"), ALL);
        Checks.due("may be unset as before", () -> open.left(5, 4), 1);
        Checks.due("one that was set before", () -> open.left(0, 4), 0);
    }

    private static void narrowed() {
        Checks.sentence("Then NARROW times V becomes such a W.");
        String chain = "a=0;b=0;c=0;d=0;e=0;f=0;while(a<5){f=e;e=d;d=c;c=b;b=a;a=a+1;}";
        String[] names = {"b", "c", "d", "e", "f"};
        for (int narrow = 0; narrow <= 5; narrow++) {
            for (int n = 0; n < names.length; n++) {
                leaves(1, narrow, chain, names[n], n < narrow ? "0..4 1 0" : "0..10 1 0");
            }
            leaves(1, narrow, chain, "a", narrow == 0 ? "5..10 1 0" : "5..5 0 5");
            passes(1, narrow, "a=in;while(a<5){a=in;}", 2 + narrow);
        }
    }

    private static void goesOnFromNotTaken() {
        Checks.sentence("Then the COND and the BLOCK are gone through once more from V,"
            + " and all of this goes on from V with the COND not TAKEN.");
        leaves(1, 1, "a=0;while(a<5){a=a+1;}b=a;", "b", "5..5 0 5");
        leaves(1, 1, "a=9;while(a<5){a=a+1;}b=a;", "b", "9..9 0 9");
        leaves(1, 1, "while(1<2){}b=1;", "B0", "dead");
        leaves(1, 1, "a=0;while(a<=9){a=a+2;}", "a", "10..10 0 10");
        leaves(1, 1, "a=in;while(a==0){a=in;}", "a", ALL);
        leaves(1, 1, "a=in;while(a!=0){a=in;}", "a", "0..0 0 0");
        Checks.warnsAsMarked("while(1<2){}a=b;");
        // V, not what the last time leaves: a BLOCK that is DEAD at its end changes nothing.
        leaves(1, 0, "a=in;while(a<0){A[4]=1;}", "a", "0..2147483647 1 0");
    }

    private static void onlyTheLastTime() {
        Checks.sentence("WARNINGS are the KINDS with their POINTS that come up; in a while only as it is"
            + " gone through the last time");
        String text = "a=0;c=0;while(a<3){A[c]=1;a=a+1;c=a;}";
        Checks.same("widened", Checks.warningsOf(with(1, 0, text)), "2@19");
        Checks.same("narrowed", Checks.warningsOf(with(1, 1, text)), "");
        String wide = "a=0;while(a<9){if(9<a){b=c;}a=a+1;}";
        Checks.same("never inside", Checks.warningsOf(with(1, 0, wide)), "");
        String cond = "a=0;while(A[a]<1){a=a+1;}";
        Checks.same("its COND too", Checks.warningsOf(with(1, 1, cond)), "2@10 3@21");
        Checks.same("an assert", Checks.warningsOf(with(1, 0, "a=0;while(a<5){a=a+1;assert(a<6);}")), "");
        Checks.same("behind it", Checks.warningsOf(with(1, 0, "a=0;while(a<5){a=a+1;}assert(a<6);")), "5@22");
        Checks.same("behind it narrowed", Checks.warningsOf(with(1, 1, "a=0;while(a<5){a=a+1;}assert(a<6);")), "");
    }

    private static void asOftenAsThatIs() {
        Checks.sentence("(as often as that is, in a while around it)");
        String inner = "a=0;c=0;while(a<3){b=0;while(b<1){A[c]=1;b=b+1;}a=a+1;c=a;}";
        Checks.same("an inner one in each pass", Checks.warningsOf(with(1, 1, inner)), "2@34");
        String behind = "a=0;c=0;while(a<3){b=0;while(b<1){b=b+1;}A[c]=1;a=a+1;c=a;}";
        Checks.same("not what is behind it", Checks.warningsOf(with(1, 1, behind)), "");
        String before = "a=0;c=0;while(a<3){A[c]=1;b=0;while(b<1){b=b+1;}a=a+1;c=a;}";
        Checks.same("nor before it", Checks.warningsOf(with(1, 1, before)), "");
        passes(0, 0, "a=in;while(a<1){while(a<2){}}", 2 * 3);
        passes(0, 1, "a=in;while(a<1){while(a<2){}}", 3 * 4);
        passes(0, 0, "a=in;while(a<1){while(a<2){while(a<3){}}}", 2 * (1 + 2 * 3));
    }
}
