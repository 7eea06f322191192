/** Promises 11 and 13: what operators and CONDS make of VALUES. */
public final class RangesTest {
    private static final String ALL = "-2147483648..2147483647 1 0";
    private static final String LEAST = "-999999999-999999999-147483650";

    public static void main(String[] args) {
        tight();
        join();
        sums();
        products();
        quotients();
        rests();
        equal();
        unequal();
        ordered();
        sidesOfConds();
        Checks.end();
    }

    /** A VARIABLE with the ints from lo to hi. */
    private static String range(char name, int lo, int hi) {
        return name + "=in;assert(" + lo + "<=" + name + ");assert(" + name + "<=" + hi + ");";
    }

    /** A VARIABLE with all multiples of m, and r, from -n times on to n times. */
    private static String rests(char name, int n, int m, int r) {
        return name + "=in;" + name + "=" + name + "%" + (n + 1) + "*" + m + "+" + r + ";";
    }

    private static void tight() {
        Checks.leaves("a=7;", "a", "7..7 0 7");
        Checks.leaves("a=in;", "a", ALL);
        Checks.leaves(rests('a', 4, 4, 1), "a", "-15..17 4 1");
        Checks.leaves(rests('a', 4, 4, 1) + "assert(a<=14);assert(-12<=a);", "a", "-11..13 4 1");
        Checks.leaves(rests('a', 4, 4, 1) + "assert(a<=14);assert(11<=a);", "a", "13..13 0 13");
        Checks.leaves(rests('a', 4, 4, 1) + "assert(a<=16);assert(14<=a);", "a", "dead");
        Checks.leaves("a=in;a=a%3*65536;", "a", "-131072..131072 65536 0");
        Checks.leaves("a=in;a=a%3*65537;", "a", "-131074..131074 1 0");
    }

    private static void join() {
        Checks.leaves("a=in;if(a<0){b=3;}else{b=11;}", "b", "3..11 8 3");
        Checks.leaves("a=in;if(a<0){b=5;}else{b=-3;}", "b", "-3..5 8 5");
        Checks.leaves("a=in;if(a<0){b=5;}else{b=5;}", "b", "5..5 0 5");
        Checks.leaves("a=in;if(a<0){b=0;}else{b=65536;}", "b", "0..65536 65536 0");
        Checks.leaves("a=in;if(a<0){b=0;}else{b=65537;}", "b", "0..65537 1 0");
        Checks.leaves("a=in;if(a<0){b=-999999999;}else{b=999999999;}", "b", "-999999999..999999999 1 0");
        Checks.leaves(rests('a', 4, 6, 0) + rests('b', 4, 4, 2) + "c=in;if(c<0){d=a;}else{d=b;}", "d", "-24..24 2 0");
        Checks.leaves(rests('a', 4, 6, 0) + "c=in;if(c<0){d=a;}else{d=3;}", "d", "-24..24 3 0");
        Checks.leaves("a=in;if(a<0){b=3;}", "b", "3..3 0 3");
        Checks.leaves("a=in;if(a<0){b=3;}", "c", "nothing");
    }

    private static void sums() {
        String two = rests('a', 4, 6, 0) + rests('b', 2, 4, 3);
        Checks.leaves(two, "b", "-5..11 4 3");
        Checks.leaves(two + "c=a+b;", "c", "-29..35 2 1");
        Checks.leaves(two + "c=a-b;", "c", "-35..29 2 1");
        Checks.leaves(two + "c=b+5;", "c", "0..16 4 0");
        Checks.leaves(two + "c=-b;", "c", "-11..5 4 1");
        Checks.leaves("a=in;b=a+1;", "b", "-2147483647..2147483647 1 0");
        Checks.warns("a=in;b=a+1;", "3@8");
        Checks.leaves("a=in;b=a-1;", "b", "-2147483648..2147483646 1 0");
        Checks.leaves("a=in;b=-a;", "b", "-2147483647..2147483647 1 0");
        Checks.warns("a=in;b=-a;", "3@7");
        Checks.leaves("a=999999999+999999999+999999999;", "a", "dead");
        Checks.leaves("a=-999999999-999999999-999999999;", "a", "dead");
        Checks.warns("a=999999999+999999999+999999999;b=c;", "3@21");
        Checks.leaves("a=" + LEAST + ";", "a", "-2147483648..-2147483648 0 -2147483648");
        Checks.warns("a=" + LEAST + ";", "");
        Checks.warns("a=" + LEAST + ";b=-a;", "3@35");
        Checks.leaves("a=in;a=a*8;b=a+3;", "b", "-2147483645..2147483643 8 3");
    }

    private static void products() {
        Checks.leaves(rests('a', 4, 6, 0) + rests('b', 2, 4, 3) + "c=a*b;", "c", "-264..264 6 0");
        Checks.leaves(rests('a', 2, 4, 1) + rests('b', 2, 4, 3) + "c=a*b;", "c", "-77..99 4 3");
        Checks.leaves(range('a', 0, 9) + range('b', -5, 2) + "c=a*b;", "c", "-45..18 1 0");
        Checks.leaves(range('a', -5, 2) + range('b', 0, 9) + "c=a*b;", "c", "-45..18 1 0");
        Checks.leaves(range('a', -9, -3) + range('b', -5, 2) + "c=a*b;", "c", "-18..45 1 0");
        Checks.leaves(range('a', 2, 3) + range('b', 4, 5) + "c=a*b;", "c", "8..15 1 0");
        Checks.leaves("a=in;b=a*0;", "b", "0..0 0 0");
        Checks.leaves("a=in;b=a*a;", "b", ALL);
        Checks.warns("a=in;b=a*a;", "3@8");
        Checks.leaves("a=in;b=a*2;", "b", "-2147483648..2147483646 2 0");
        Checks.leaves("a=in;a=a%10;b=a*-7;", "b", "-63..63 7 0");
        Checks.warns("a=in;a=a%10;b=a*-7;", "");
        Checks.leaves("a=46341*46341;", "a", "dead");
        Checks.leaves("a=-46341*46340;", "a", "-2147441940..-2147441940 0 -2147441940");
        Checks.leaves("a=in;a=a%2*999999999;b=a*999999999;", "b", ALL);
    }

    private static void quotients() {
        Checks.leaves("a=in;a=a%10;b=100/a;", "b", "-100..100 1 0");
        Checks.warns("a=in;a=a%10;b=100/a;", "4@17");
        Checks.leaves(range('a', 0, 5) + "b=60/a;", "b", "12..60 1 0");
        Checks.leaves(range('a', -5, 0) + "b=60/a;", "b", "-60..-12 1 0");
        Checks.leaves(range('a', -5, -2) + "b=60/a;", "b", "-30..-12 1 0");
        Checks.leaves(range('a', -7, 9) + "b=a/2;", "b", "-3..4 1 0");
        Checks.leaves(range('a', 5, 9) + "b=a/10;", "b", "0..0 0 0");
        Checks.leaves("b=-7/2;", "b", "-3..-3 0 -3");
        Checks.leaves("b=7/0;", "b", "dead");
        Checks.warns("b=7/0;b=c;", "4@3");
        // 0 is not one of these, yet the parts go up to -1 and from 1 on.
        Checks.leaves(rests('a', 1, 4, 2) + "b=60/a;", "b", "-60..60 1 0");
        Checks.warns(rests('a', 1, 4, 2) + "b=60/a;", "");
        Checks.leaves("a=in;b=a/3;", "b", "-715827882..715827882 1 0");
        Checks.leaves("a=in;b=a/-1;", "b", "-2147483647..2147483647 1 0");
        Checks.warns("a=in;b=a/-1;", "3@8");
        Checks.warns("a=in;b=in;c=a/b;", "3@13 4@13");
        Checks.leaves("a=" + LEAST + ";b=a/-1;", "b", "dead");
        Checks.warns("a=" + LEAST + ";b=a/-1;", "3@36");
        // -1 is not one of these, so nothing is OVER, and the quotients are cut.
        Checks.leaves("a=in;" + rests('b', 1, 4, 2) + "c=a/b;", "c", ALL);
        Checks.warns("a=in;" + rests('b', 1, 4, 2) + "c=a/b;", "");
        Checks.warns("a=in;" + rests('b', 1, 4, 3) + "c=a/b;", "3@23");
    }

    private static void rests() {
        Checks.leaves("a=in;b=in;b=b%10;c=a%b;", "c", "-8..8 1 0");
        Checks.warns("a=in;b=in;b=b%10;c=a%b;", "4@20");
        Checks.leaves(range('a', 5, 7) + "b=a%3;", "b", "0..2 1 0");
        Checks.leaves(range('a', -7, -5) + "b=a%3;", "b", "-2..0 1 0");
        Checks.leaves(range('a', -1, 2) + "b=a%9;", "b", "-1..2 1 0");
        Checks.leaves(range('a', 0, 5) + "b=in;c=b%a;", "c", "-4..4 1 0");
        Checks.leaves(range('a', -5, 2) + "b=in;c=b%a;", "c", "-4..4 1 0");
        Checks.leaves("a=in;b=a%2;c=a%b;", "c", "0..0 0 0");
        Checks.leaves("a=in;b=a%1;", "b", "0..0 0 0");
        Checks.leaves("a=-7%4;", "a", "-3..-3 0 -3");
        Checks.leaves("a=7%-4;", "a", "3..3 0 3");
        Checks.leaves("a=" + LEAST + ";b=a%-1;", "b", "0..0 0 0");
        Checks.leaves("a=in;b=" + LEAST + ";c=a%b;", "c", "-2147483647..2147483647 1 0");
        Checks.leaves("a=in;b=a%0;", "b", "dead");
        Checks.warns("a=in;b=a%0;", "4@8");
        Checks.warns("a=in;b=a%-1;", "");
    }

    private static void equal() {
        String two = rests('a', 4, 6, 0) + rests('b', 8, 4, 0);
        Checks.leaves(two + "assert(a==b);", "a", "-24..24 6 0");
        Checks.leaves(two + "assert(a==b);", "b", "-24..24 6 0");
        Checks.leaves(two + "assert(b==a);", "b", "-24..24 6 0");
        Checks.leaves(rests('a', 4, 6, 0) + rests('b', 8, 4, 1) + "assert(a==b);", "a", "dead");
        Checks.leaves(rests('a', 4, 6, 0) + rests('b', 8, 4, 2) + "assert(a==b);", "b", "-24..24 6 0");
        Checks.leaves("a=in;" + rests('b', 4, 4, 0) + "assert(a==b);", "a", "-16..16 4 0");
        Checks.leaves("a=in;" + rests('b', 4, 4, 0) + "assert(b==a);", "a", "-16..16 4 0");
        Checks.leaves(rests('a', 4, 6, 0) + "assert(a==12);", "a", "12..12 0 12");
        Checks.leaves(rests('a', 4, 6, 0) + "assert(-6==a);", "a", "-6..-6 0 -6");
        Checks.leaves(rests('a', 4, 6, 0) + "assert(a==13);", "a", "dead");
        Checks.leaves(rests('a', 4, 6, 0) + "assert(a==30);", "a", "dead");
        Checks.leaves(range('a', 0, 5) + range('b', 6, 9) + "assert(a==b);", "a", "dead");
        Checks.leaves(range('a', 0, 5) + range('b', 5, 9) + "assert(a==b);", "b", "5..5 0 5");
        Checks.leaves("a=in;if(a!=5){b=1;}else{b=a;a=0;}", "b", "1..5 4 1");
        Checks.leaves("a=2;assert(a==2);", "a", "2..2 0 2");
        Checks.leaves("a=2;if(a==3){b=1;}else{b=2;}", "b", "2..2 0 2");
    }

    private static void unequal() {
        Checks.leaves(range('a', 0, 3) + "assert(a!=0);", "a", "1..3 1 0");
        Checks.leaves(range('a', 0, 3) + "assert(a!=3);", "a", "0..2 1 0");
        Checks.leaves(range('a', 0, 3) + "assert(3!=a);", "a", "0..2 1 0");
        Checks.leaves(range('a', 0, 3) + "assert(a!=1);", "a", "0..3 1 0");
        Checks.leaves(range('a', 0, 3) + "assert(a!=7);", "a", "0..3 1 0");
        Checks.leaves(rests('a', 2, 4, 0) + "assert(a!=-8);", "a", "-4..8 4 0");
        Checks.leaves(rests('a', 2, 4, 0) + "assert(8!=a);", "a", "-8..4 4 0");
        Checks.leaves(range('a', 0, 1) + "assert(a!=0);", "a", "1..1 0 1");
        Checks.leaves("a=3;assert(a!=3);", "a", "dead");
        Checks.leaves("a=3;assert(a!=a);", "a", "dead");
        Checks.leaves("a=3;assert(a!=4);", "a", "3..3 0 3");
        Checks.leaves(range('a', 0, 3) + range('b', 0, 3) + "assert(a!=b);", "a", "0..3 1 0");
        Checks.leaves(range('a', 0, 3) + "if(a==0){b=1;}else{b=a;}", "b", "1..3 1 0");
        Checks.leaves(range('a', 0, 9) + "if(a==9){a=0;}", "a", "0..8 1 0");
    }

    private static void ordered() {
        String two = range('a', 0, 9) + range('b', 0, 5);
        Checks.leaves(two + "assert(a<b);", "a", "0..4 1 0");
        Checks.leaves(two + "assert(a<b);", "b", "1..5 1 0");
        Checks.leaves(two + "assert(a<=b);", "a", "0..5 1 0");
        Checks.leaves(two + "assert(a<=b);", "b", "0..5 1 0");
        Checks.leaves(two + "if(a<b){a=7;b=7;}", "a", "0..9 1 0");
        Checks.leaves(range('a', 0, 9) + "if(a<4){a=9;}", "a", "4..9 1 0");
        Checks.leaves(range('a', 0, 9) + "if(a<=4){a=9;}", "a", "5..9 1 0");
        Checks.leaves(range('a', 0, 9) + "if(4<a){a=0;}", "a", "0..4 1 0");
        Checks.leaves(range('a', 0, 9) + "if(4<=a){a=0;}", "a", "0..3 1 0");
        Checks.leaves(rests('a', 4, 6, 1) + "assert(a<13);", "a", "-23..7 6 1");
        Checks.leaves(rests('a', 4, 6, 1) + "assert(a<=13);", "a", "-23..13 6 1");
        Checks.leaves(rests('a', 4, 6, 1) + "assert(8<=a);", "a", "13..25 6 1");
        Checks.leaves("a=in;b=" + LEAST + ";assert(a<b);", "a", "dead");
        Checks.leaves("a=in;b=" + LEAST + ";assert(a<=b);", "a", "-2147483648..-2147483648 0 -2147483648");
        Checks.leaves("a=in;b=999999999+999999999+147483649;assert(b<a);", "a", "dead");
        Checks.leaves("a=in;b=999999999+999999999+147483649;assert(b<=a);", "a", "2147483647..2147483647 0 2147483647");
        Checks.leaves("a=3;assert(a<a);", "a", "dead");
        Checks.leaves("a=3;assert(a<=a);", "a", "3..3 0 3");
    }

    private static void sidesOfConds() {
        Checks.leaves("a=in;assert(((a))<5);", "a", "-2147483648..4 1 0");
        Checks.leaves("a=in;assert(5<(a));", "a", "6..2147483647 1 0");
        Checks.leaves("a=in;assert(0+a<5);", "a", ALL);
        Checks.leaves("a=in;assert(-a<5);", "a", "-2147483648..2147483647 1 0");
        Checks.leaves("a=in;A[0]=a;assert(A[0]<5);", "A0", ALL);
        // Both sides are the same one here: it has that of the right side of what is so then.
        Checks.leaves("a=in;assert(a<a);", "a", "-2147483647..2147483647 1 0");
        Checks.leaves("a=in;if(a<=a){a=5;}else{a=a;}", "a", "-2147483647..2147483647 1 0");
        Checks.leaves("a=in;if(a<0){b=1;}else{b=a;}", "b", "0..2147483647 1 0");
        Checks.leaves("a=1/0;assert(b<1);", "a", "dead");
        Checks.warns("assert(1/0<b);", "4@8");
        Checks.warns("if(1/0<b){}else{}", "4@4");
        Checks.warns("if(b<1/0){}else{}", "1@3");
    }
}
