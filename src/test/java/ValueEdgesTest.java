/** Boundary cases of RANGES: VALUES put tight, joined, met, reckoned with and widened. */
public final class ValueEdgesTest {
    private static final String ALL = Checks.ALL;
    private static final String MIN = Checks.LEAST_INT;
    private static final String MAX = Checks.MOST_INT;
    // -15, -11 .. 17
    private static final String FOURS = Checks.rests('a', 4, 4, 1);

    public static void main(String[] args) {
        whatValuesAre();
        greatModulus();
        tightWithOne();
        tightEnds();
        tightToNone();
        tightToOne();
        joinWithNothing();
        joinOfTwo();
        meetRange();
        meetModulus();
        meetToNothing();
        sumsAndProducts();
        restsFromNoughtOn();
        beyondInts();
        zeroDivisor();
        partsOfDivisor();
        noDivisorLeft();
        quotients();
        overQuotients();
        remainders();
        justWhatJavaGives();
        widenDown();
        widenUp();
        widenOnlyWhatGrows();
        widenIsPutTight();
        Checks.end();
    }

    private static void a(String text, String due) {
        Checks.leaves(text, "a", due);
    }

    private static void c(String text, String due) {
        Checks.leaves(text, "c", due);
    }

    /** A VALUE of b that is one or the other. */
    private static String either(int one, int other) {
        return "a=in;if(a<0){b=" + one + ";}else{b=" + other + ";}";
    }

    private static void whatValuesAre() {
        Checks.sentence("all of these ints that leave r when divided by m (m 1 to 65536, r 0 to m - 1),"
            + " or, with m 0, r alone");
        a("a=0;", "0..0 0 0");
        a("a=-7;", "-7..-7 0 -7");
        a("a=in;", ALL);
        a("a=in;a=a%3*2-1;", "-5..3 2 1");
        a("a=in;a=a%3*5-4;", "-14..6 5 1");
        a("a=in;a=a%3*5-5;", "-15..5 5 0");
        a("a=in;a=a%3*5+4;", "-6..14 5 4");
        a("a=in;a=a%3*65536-1;", "-131073..131071 65536 65535");
        a("a=in;a=a%2*3-9;assert(a<-9);", "-12..-12 0 -12");
    }

    private static void greatModulus() {
        Checks.sentence("PUT TIGHT: m above 65536 becomes 1 (r 0)");
        Checks.leaves(either(1, 65536), "b", "1..65536 65535 1");
        Checks.leaves(either(1, 65537), "b", "1..65537 65536 1");
        Checks.leaves(either(1, 65538), "b", "1..65538 1 0");
        Checks.leaves(either(-65536, 0), "b", "-65536..0 65536 0");
        Checks.leaves(either(0, -65537), "b", "-65537..0 1 0");
        a("a=in;a=a%3*65536+5;", "-131067..131077 65536 5");
        a("a=in;a=a%3*65537+5;", "-131069..131079 1 0");
        a("a=in;a=a%3*256*256;", "-131072..131072 65536 0");
        a("a=in;a=a%3*256*257;", "-131584..131584 1 0");
    }

    private static void tightWithOne() {
        Checks.sentence("with m 0: r..r if that is in lo..hi");
        a("a=5;if(a<6){}", "5..5 0 5");
        a("a=5;assert(a<=5);", "5..5 0 5");
        a("a=5;assert(a<=4);", "dead");
        a("a=5;assert(5<=a);", "5..5 0 5");
        a("a=5;assert(6<=a);", "dead");
        a("a=" + MAX + "+0;", "2147483647..2147483647 0 2147483647");
        a("a=" + MAX + "+1;", "dead");
        a("a=" + MIN + "-0;", "-2147483648..-2147483648 0 -2147483648");
        a("a=" + MIN + "-1;", "dead");
    }

    private static void tightEnds() {
        Checks.sentence("else lo becomes the least one from lo on that leaves r, hi the greatest one up to hi");
        a(FOURS, "-15..17 4 1");
        a(FOURS + "assert(-15<=a);", "-15..17 4 1");
        a(FOURS + "assert(-14<=a);", "-11..17 4 1");
        a(FOURS + "assert(-12<=a);", "-11..17 4 1");
        a(FOURS + "assert(-11<=a);", "-11..17 4 1");
        a(FOURS + "assert(-10<=a);", "-7..17 4 1");
        a(FOURS + "assert(0<=a);", "1..17 4 1");
        a(FOURS + "assert(2<=a);", "5..17 4 1");
        a(FOURS + "assert(a<=17);", "-15..17 4 1");
        a(FOURS + "assert(a<=16);", "-15..13 4 1");
        a(FOURS + "assert(a<=13);", "-15..13 4 1");
        a(FOURS + "assert(a<=0);", "-15..-3 4 1");
        a(FOURS + "assert(a<=-4);", "-15..-7 4 1");
    }

    private static void tightToNone() {
        Checks.sentence("NOTHING if there is none");
        a(FOURS + "assert(2<=a);assert(a<=4);", "dead");
        a(FOURS + "assert(2<=a);assert(a<=5);", "5..5 0 5");
        a(FOURS + "assert(a<=-12);assert(-14<=a);", "dead");
        a(FOURS + "assert(18<=a);", "dead");
        a(FOURS + "assert(a<=-16);", "dead");
        Checks.warnsAsMarked("a=in;a=a%5*4+1;if(18<=a){b=c;}if(a<=-16){b=c;}");
    }

    private static void tightToOne() {
        Checks.sentence("if lo and hi are the same m is 0, r lo");
        a(FOURS + "assert(14<=a);", "17..17 0 17");
        a(FOURS + "assert(a<=-12);", "-15..-15 0 -15");
        a("a=in;assert(7<=a);assert(a<=7);", "7..7 0 7");
        a("a=in;a=a%1;", "0..0 0 0");
        a("a=in;a=a%2;assert(a<0);", "-1..-1 0 -1");
    }

    private static void joinWithNothing() {
        Checks.sentence("JOIN of two VALUES: the other one, if one is NOTHING");
        Checks.leaves("a=in;if(a<0){b=3;}", "b", "3..3 0 3");
        Checks.leaves("a=in;if(a<0){}else{b=3;}", "b", "3..3 0 3");
        Checks.leaves(FOURS + "if(a<0){}else{b=a;}", "b", "1..17 4 1");
        Checks.leaves("a=in;if(a<0){}else{}", "b", "nothing");
    }

    private static void joinOfTwo() {
        Checks.sentence("the lesser lo, the greater hi, m the greatest common divisor of both m and of the"
            + " difference of both r"
            + " (of 0 and a number: that number), r what r leaves by that (or r if m is 0)");
        Checks.leaves(either(3, 3), "b", "3..3 0 3");
        Checks.leaves(either(-3, -3), "b", "-3..-3 0 -3");
        Checks.leaves(either(3, 4), "b", "3..4 1 0");
        Checks.leaves(either(4, 3), "b", "3..4 1 0");
        Checks.leaves(either(-3, 9), "b", "-3..9 12 9");
        Checks.leaves(either(9, -3), "b", "-3..9 12 9");
        Checks.leaves(either(-999999999, 999999999), "b", "-999999999..999999999 1 0");
        c(FOURS + "b=in;if(b<0){c=a;}else{c=21;}", "-15..21 4 1");
        c(FOURS + "b=in;if(b<0){c=-19;}else{c=a;}", "-19..17 4 1");
        c(FOURS + "b=in;if(b<0){c=a;}else{c=3;}", "-15..17 2 1");
        c(FOURS + "b=in;if(b<0){c=4;}else{c=a;}", "-15..17 1 0");
        c(FOURS + Checks.rests('b', 2, 6, 3) + "c=in;if(c<0){c=a;}else{c=b;}", "-15..17 2 1");
        c(FOURS + Checks.rests('b', 2, 8, 5) + "c=in;if(c<0){c=b;}else{c=a;}", "-15..21 4 1");
        c("a=in;if(a<0){c=a;}else{c=5;}", "-2147483648..5 1 0");
    }

    private static void meetRange() {
        Checks.sentence("MEET: the greater lo, the lesser hi");
        String low = Checks.range('a', 0, 9);
        Checks.leaves(low + Checks.range('b', 5, 20) + "assert(a==b);", "a", "5..9 1 0");
        Checks.leaves(low + Checks.range('b', 5, 20) + "assert(a==b);", "b", "5..9 1 0");
        Checks.leaves(low + Checks.range('b', 5, 20) + "assert(b==a);", "a", "5..9 1 0");
        Checks.leaves(low + Checks.range('b', 3, 5) + "assert(a==b);", "a", "3..5 1 0");
        Checks.leaves(low + Checks.range('b', 3, 5) + "assert(b==a);", "a", "3..5 1 0");
        Checks.leaves(low + Checks.range('b', 9, 20) + "assert(a==b);", "a", "9..9 0 9");
        Checks.leaves(low + Checks.range('b', 10, 20) + "assert(a==b);", "a", "dead");
        Checks.leaves(low + Checks.range('b', -9, 0) + "assert(a==b);", "b", "0..0 0 0");
        Checks.leaves(low + Checks.range('b', -9, -1) + "assert(b==a);", "b", "dead");
    }

    private static void meetModulus() {
        Checks.sentence("m and r those of the one with m 0, or of the one with the greater m (the first"
            + " one, if they are alike)");
        String low = Checks.range('a', 0, 9);
        for (int r : new int[] {0, 4, 9}) {
            a(low + "assert(a==" + r + ");", r + ".." + r + " 0 " + r);
            a(low + "assert(" + r + "==a);", r + ".." + r + " 0 " + r);
        }
        String sixes = Checks.rests('b', 4, 6, 3);
        for (String cond : new String[] {"a==b", "b==a"}) {
            Checks.leaves(FOURS + sixes + "assert(" + cond + ");", "a", "-15..15 6 3");
            Checks.leaves(FOURS + sixes + "assert(" + cond + ");", "b", "-15..15 6 3");
            Checks.leaves(FOURS + Checks.rests('b', 9, 4, 1) + "assert(" + cond + ");", "b", "-15..17 4 1");
            Checks.leaves(FOURS + "b=in;assert(" + cond + ");", "b", "-15..17 4 1");
        }
    }

    private static void meetToNothing() {
        Checks.sentence("NOTHING, if both m are not 0 and the r leave different rests by the greatest"
            + " common divisor of both m,"
            + " or if one has m 0 and its r is not one of the other");
        for (String cond : new String[] {"a==b", "b==a"}) {
            Checks.leaves(FOURS + Checks.rests('b', 4, 6, 2) + "assert(" + cond + ");", "a", "dead");
            Checks.leaves(FOURS + Checks.rests('b', 4, 6, 5) + "assert(" + cond + ");", "a", "-13..17 6 5");
            Checks.leaves(FOURS + Checks.rests('b', 4, 8, 3) + "assert(" + cond + ");", "a", "dead");
            Checks.leaves(FOURS + Checks.rests('b', 4, 4, 3) + "assert(" + cond + ");", "b", "dead");
            Checks.leaves(FOURS + "b=4;assert(" + cond + ");", "a", "dead");
            Checks.leaves(FOURS + "b=5;assert(" + cond + ");", "a", "5..5 0 5");
            Checks.leaves(FOURS + "b=21;assert(" + cond + ");", "a", "dead");
            Checks.leaves(FOURS + "b=-19;assert(" + cond + ");", "a", "dead");
            Checks.leaves(FOURS + "b=-15;assert(" + cond + ");", "a", "-15..-15 0 -15");
            Checks.leaves("a=7;b=7;assert(" + cond + ");", "a", "7..7 0 7");
            Checks.leaves("a=7;b=8;assert(" + cond + ");", "a", "dead");
        }
    }

    private static void sumsAndProducts() {
        Checks.sentence("ADD, SUB: from lo + lo to hi + hi, from lo - hi to hi - lo; m the greatest common"
            + " divisor of both m");
        String two = FOURS + Checks.rests('b', 2, 6, 3);
        c(two + "c=a+b;", "-24..32 2 0");
        c(two + "c=a-b;", "-30..26 2 0");
        c(two + "c=b-a;", "-26..30 2 0");
        c(FOURS + "c=a+2;", "-13..19 4 3");
        c(FOURS + "c=2+a;", "-13..19 4 3");
        c("c=2+3;", "5..5 0 5");
        Checks.sentence("MUL: from the least to the greatest of the four products of lo and hi;"
            + " m the greatest common divisor of m * m', m * r' and m' * r; r * r'");
        c(two + "c=a*b;", "-225..255 6 3");
        c(FOURS + "c=a*6;", "-90..102 24 6");
        c(FOURS + "c=-6*a;", "-102..90 24 18");
        c(FOURS + "c=a*0;", "0..0 0 0");
        c(Checks.rests('a', 2, 4, 0) + Checks.rests('b', 2, 6, 0) + "c=a*b;", "-96..96 24 0");
        c(Checks.range('a', -3, 2) + Checks.range('b', -5, 7) + "c=a*b;", "-21..15 1 0");
        c(Checks.range('a', -3, 2) + Checks.range('b', -9, 4) + "c=a*b;", "-18..27 1 0");
        c(Checks.range('a', -3, 6) + Checks.range('b', -9, 5) + "c=a*b;", "-54..30 1 0");
        c("c=-2*3;", "-6..-6 0 -6");
    }

    private static void restsFromNoughtOn() {
        Checks.sentence("(r taken by m then, from 0 on; as it is with m 0.)");
        c(FOURS + "c=a-3;", "-18..14 4 2");
        c(FOURS + "c=-a;", "-17..15 4 3");
        c(FOURS + "c=a+3;", "-12..20 4 0");
        c(FOURS + "c=a*-1;", "-17..15 4 3");
        c("c=3-5;", "-2..-2 0 -2");
        c("c=-5;", "-5..-5 0 -5");
        c("c=-5*7;", "-35..-35 0 -35");
    }

    private static void beyondInts() {
        Checks.sentence("OVER, if that range goes beyond ints; it is cut to them, and PUT TIGHT.");
        Checks.warnsAsMarked("d=" + MAX + ";a=in;if(a<d){b=a+1;}");
        Checks.warnsAsMarked("d=" + MAX + ";a=in;if(a<=d){b=a^3+1;}");
        Checks.warnsAsMarked("d=" + MIN + ";a=in;if(d<a){b=a-1;}");
        Checks.warnsAsMarked("d=" + MIN + ";a=in;if(d<=a){b=a^3-1;}");
        Checks.warnsAsMarked("d=" + MIN + ";a=in;if(d<a){b=-a;}");
        Checks.warnsAsMarked("d=" + MIN + ";a=in;if(d<=a){b=^3-a;}");
        Checks.warnsAsMarked(Checks.range('a', 0, 46340) + "b=a*a;");
        Checks.warnsAsMarked(Checks.range('a', 0, 46341) + "b=a^3*a;");
        Checks.warnsAsMarked(Checks.range('a', 0, 32768) + "b=a*-65536;");
        Checks.warnsAsMarked(Checks.range('a', 0, 32769) + "b=a^3*-65536;");
        Checks.warnsAsMarked(Checks.range('a', 0, 32768) + "b=a^3*65536;");
        c("a=in;c=a+1;", "-2147483647..2147483647 1 0");
        c("a=in;c=a-1;", "-2147483648..2147483646 1 0");
        c("a=in;c=-a;", "-2147483647..2147483647 1 0");
        c("a=in;c=a+a;", ALL);
        c("a=in;c=a*3;", "-2147483646..2147483646 3 0");
        c("a=in;a=a*8;c=a+3;", "-2147483645..2147483643 8 3");
        c("a=in;c=a*a;", ALL);
        Checks.warnsAsMarked("a=in;a=a%2*999999999^3*3;");
        Checks.warnsAsMarked("a=999999999^3*3;b=c;");
        a("a=999999999*3;", "dead");
        a("a=-999999999*3;", "dead");
        a(Checks.range('b', 0, 9) + "a=" + MAX + "+b;", "2147483647..2147483647 0 2147483647");
        a(Checks.range('b', 1, 9) + "a=" + MAX + "+b;", "dead");
    }

    private static void zeroDivisor() {
        Checks.sentence("DIV, REM by y: ZERO, if 0 is one of y.");
        for (String sign : new String[] {"/", "%"}) {
            Checks.warnsAsMarked(Checks.range('a', 0, 5) + "b=9^4" + sign + "a;");
            Checks.warnsAsMarked(Checks.range('a', 1, 5) + "b=9" + sign + "a;");
            Checks.warnsAsMarked(Checks.range('a', -5, 0) + "b=9^4" + sign + "a;");
            Checks.warnsAsMarked(Checks.range('a', -5, -1) + "b=9" + sign + "a;");
            Checks.warnsAsMarked(Checks.range('a', -5, 5) + "b=9^4" + sign + "a;");
            Checks.warnsAsMarked(Checks.rests('a', 2, 4, 0) + "b=9^4" + sign + "a;");
            Checks.warnsAsMarked(Checks.rests('a', 2, 4, 2) + "b=9" + sign + "a;");
            Checks.warnsAsMarked("b=9^4" + sign + "0;");
            Checks.warnsAsMarked("b=0" + sign + "9;");
        }
    }

    private static void partsOfDivisor() {
        Checks.sentence("Of y is left what is below 0, -1 at most, and what is above: lo'..hi' each"
            + " (with 0 as a lo or hi these are -1 or 1; whatever it leaves)");
        c(Checks.range('a', 0, 5) + "c=60/a;", "12..60 1 0");
        c(Checks.range('a', -5, 0) + "c=60/a;", "-60..-12 1 0");
        c(Checks.range('a', 0, 1) + "c=60/a;", "60..60 0 60");
        c(Checks.range('a', -1, 0) + "c=60/a;", "-60..-60 0 -60");
        c(Checks.range('a', -3, 4) + "c=60/a;", "-60..60 1 0");
        c(Checks.range('a', 2, 5) + "c=60/a;", "12..30 1 0");
        c(Checks.range('a', -5, -2) + "c=60/a;", "-30..-12 1 0");
        c(Checks.rests('a', 1, 4, 2) + "c=60/a;", "-60..60 1 0");
        c(Checks.rests('a', 1, 4, 0) + "c=60/a;", "-60..60 1 0");
        c("a=in;" + Checks.range('b', 0, 5) + "c=a%b;", "-4..4 1 0");
        c("a=in;" + Checks.range('b', -5, 0) + "c=a%b;", "-4..4 1 0");
        c("a=in;" + Checks.range('b', -7, 3) + "c=a%b;", "-6..6 1 0");
        c("a=in;" + Checks.range('b', -3, 7) + "c=a%b;", "-6..6 1 0");
    }

    private static void noDivisorLeft() {
        Checks.sentence("NOTHING if both are none");
        for (String sign : new String[] {"/", "%"}) {
            c("c=9" + sign + "0;", "dead");
            c("a=in;c=a" + sign + "0;", "dead");
            c("a=in;b=a*0;c=a" + sign + "b;", "dead");
            Checks.warnsAsMarked("a=in;c=a^4" + sign + "0;d=e;");
            c(Checks.range('a', 0, 1) + "c=9" + sign + "a;", sign.equals("/") ? "9..9 0 9" : "0..0 0 0");
        }
    }

    private static void quotients() {
        Checks.sentence("DIV: from the least to the greatest of all quotients (as in Java, of longs) of lo,"
            + " hi by lo', hi' of each part; m 1");
        c(Checks.range('a', -7, 9) + "c=a/2;", "-3..4 1 0");
        c(Checks.range('a', -7, 9) + "c=a/-2;", "-4..3 1 0");
        c(Checks.range('a', 5, 9) + Checks.range('b', 2, 3) + "c=a/b;", "1..4 1 0");
        c(Checks.range('a', -9, -5) + Checks.range('b', 2, 3) + "c=a/b;", "-4..-1 1 0");
        c(Checks.range('a', -9, 5) + Checks.range('b', -3, 2) + "c=a/b;", "-9..9 1 0");
        c(Checks.range('a', -9, 5) + Checks.range('b', 0, 2) + "c=a/b;", "-9..5 1 0");
        c(Checks.range('a', -9, 5) + Checks.range('b', -2, 0) + "c=a/b;", "-5..9 1 0");
        c(Checks.range('a', 5, 9) + "c=a/10;", "0..0 0 0");
        c(Checks.rests('a', 4, 4, 0) + "c=a/2;", "-8..8 1 0");
        c("a=in;c=a/2;", "-1073741824..1073741823 1 0");
        c("a=in;b=in;c=a/b;", ALL);
    }

    private static void overQuotients() {
        Checks.sentence("OVER, if lo is -2147483648 and -1 is one of y; cut to ints.");
        Checks.warnsAsMarked("a=in;b=a^3/-1;");
        Checks.warnsAsMarked("a=in;b=a/-2;");
        Checks.warnsAsMarked("a=in;b=a/1;");
        Checks.warnsAsMarked("d=" + MIN + ";a=in;if(d<a){b=a/-1;}");
        Checks.warnsAsMarked("a=" + MIN + ";b=a^3/-1;c=d;");
        Checks.warnsAsMarked("a=in;" + Checks.range('b', -5, -1) + "c=a^3/b;");
        Checks.warnsAsMarked("a=in;" + Checks.range('b', -5, -2) + "c=a/b;");
        Checks.warnsAsMarked("a=in;" + Checks.range('b', -1, 5) + "c=a^3^4/b;");
        Checks.warnsAsMarked("a=in;" + Checks.range('b', 0, 5) + "c=a^4/b;");
        Checks.warnsAsMarked("a=in;" + Checks.rests('b', 1, 4, 3) + "c=a^3/b;");
        Checks.warnsAsMarked("a=in;" + Checks.rests('b', 1, 4, 2) + "c=a/b;");
        c("a=in;c=a/-1;", "-2147483647..2147483647 1 0");
        c("a=" + MIN + ";c=a/-1;", "dead");
        c("a=in;" + Checks.rests('b', 1, 4, 2) + "c=a/b;", ALL);
        c("a=in;assert(a<=-5);c=a/-1;", "5..2147483647 1 0");
    }

    private static void remainders() {
        Checks.sentence("REM: with d the greatest of |lo'|, |hi'| of the parts, less 1: from the greater of"
            + " lo (0 if that is above 0)"
            + " and -d, to the lesser of hi (0 if that is below 0) and d; m 1");
        c(Checks.range('a', 5, 9) + "c=a%4;", "0..3 1 0");
        c(Checks.range('a', -9, -5) + "c=a%4;", "-3..0 1 0");
        c(Checks.range('a', -9, 9) + "c=a%4;", "-3..3 1 0");
        c(Checks.range('a', -9, 9) + "c=a%-4;", "-3..3 1 0");
        c(Checks.range('a', -3, 3) + "c=a%4;", "-3..3 1 0");
        c(Checks.range('a', -2, 1) + "c=a%4;", "-2..1 1 0");
        c(Checks.range('a', 0, 2) + "c=a%100;", "0..2 1 0");
        c(Checks.range('a', 1, 2) + "c=a%100;", "0..2 1 0");
        c(Checks.range('a', -2, -1) + "c=a%100;", "-2..0 1 0");
        c("a=in;c=a%1;", "0..0 0 0");
        c("a=in;c=a%-1;", "0..0 0 0");
        c("a=in;" + Checks.range('b', 0, 1) + "c=a%b;", "0..0 0 0");
        c("a=in;b=in;c=a%b;", "-2147483647..2147483647 1 0");
        c("a=in;c=a%" + MIN + ";", "-2147483647..2147483647 1 0");
        c("a=in;c=a%" + MAX + ";", "-2147483646..2147483646 1 0");
        c(Checks.rests('a', 4, 4, 0) + "c=a%8;", "-7..7 1 0");
        c("a=17;" + Checks.range('b', 2, 5) + "c=a%b;", "0..4 1 0");
    }

    private static void justWhatJavaGives() {
        Checks.sentence("If both x and y are of m 0 both are just what Java gives (if y is not 0 and that is an int).");
        int[] some = {-17, -5, -1, 1, 5, 17, 0};
        for (int x : some) {
            for (int y : some) {
                if (y != 0) {
                    c("c=" + x + "/" + y + ";", x / y + ".." + x / y + " 0 " + x / y);
                    c("c=" + x + "%" + y + ";", x % y + ".." + x % y + " 0 " + x % y);
                }
            }
        }
        c("c=17/0;", "dead");
        c("c=17%0;", "dead");
        c("c=" + MIN + "%-1;", "0..0 0 0");
        Checks.warnsAsMarked("c=" + MIN + "%-1;");
        c("c=" + MIN + "/-1;", "dead");
        c("c=" + MIN + "/1;", "-2147483648..-2147483648 0 -2147483648");
    }

    /** What a is as the loop is left, if it was one int and its BLOCK sets it to three from lo on. */
    private static void widened(int old, int lo, String due) {
        AlarmForge forge = Checks.parsed("a=" + old + ";b=in;while(b!=0){a=b%2+" + (lo + 1) + ";b=in;}");
        forge.choose(0, 0);
        forge.choose(1, 0);
        forge.analyse();
        Checks.same("widened from " + old + " by " + lo + ".." + (lo + 2), Checks.valueOf(forge, "a"), due + " 1 0");
    }

    private static void widenDown() {
        Checks.sentence("WIDEN of old by new: JOIN, but lo, if it is less than that of old, the greatest of"
            + " -2147483648, -100, -10, -1, 0, 1, 10, 100 that is not above it");
        int[][] due = {{101, 100}, {100, 100}, {99, 10}, {11, 10}, {10, 10}, {9, 1}, {2, 1}, {1, 1}, {0, 0}, {-1, -1},
            {-2, -10}, {-9, -10}, {-10, -10}, {-11, -100}, {-99, -100}, {-100, -100}, {-101, Checks.LEAST}};
        for (int[] d : due) {
            widened(150, d[0], d[1] + "..150");
        }
    }

    private static void widenUp() {
        Checks.sentence("hi, if it is greater, the least of -100, -10, -1, 0, 1, 10, 100, 2147483647 that"
            + " is not below it");
        int[][] due = {{-101, -100}, {-100, -100}, {-99, -10}, {-11, -10}, {-10, -10}, {-9, -1}, {-2, -1},
            {-1, -1}, {0, 0}, {1, 1}, {2, 10}, {9, 10}, {10, 10}, {11, 100}, {99, 100}, {100, 100}, {101, Checks.MOST}};
        for (int[] d : due) {
            widened(-150, d[0] - 2, "-150.." + d[1]);
        }
    }

    private static void widenOnlyWhatGrows() {
        Checks.sentence("if it is less than that of old");
        widened(5, 5, "5..10");
        widened(5, 3, "1..5");
        widened(5, 4, "1..10");
        widened(7, 5, "1..7");
        widened(-5, -5, "-5..-1");
        widened(-5, -7, "-10..-5");
        AlarmForge fresh = Checks.parsed("b=in;while(b!=0){a=b%8;c=7;b=in;}");
        fresh.choose(0, 0);
        fresh.choose(1, 0);
        fresh.analyse();
        Checks.same("NOTHING does not grow", Checks.valueOf(fresh, "a"), "-7..7 1 0");
        Checks.same("nor to one int", Checks.valueOf(fresh, "c"), "7..7 0 7");
        String inside = Checks.range('a', -7, 7) + "b=in;while(b!=0){a=b%8;b=in;}";
        AlarmForge forge = Checks.parsed(inside);
        forge.choose(0, 0);
        forge.choose(1, 0);
        forge.analyse();
        Checks.same("as wide as before", Checks.valueOf(forge, "a") + " in " + forge.count(3), "-7..7 1 0 in 2");
    }

    private static void widenIsPutTight() {
        Checks.sentence("that is not below it; PUT TIGHT.");
        AlarmForge forge = Checks.parsed("a=5;c=-5;d=0;b=in;while(b!=0){a=8;c=-8;d=d+7;b=in;}");
        forge.choose(0, 0);
        forge.choose(1, 0);
        forge.analyse();
        AlarmForge once = Checks.parsed("a=5;b=in;while(b!=0){a=8;b=in;}");
        once.choose(0, 0);
        once.choose(1, 0);
        once.analyse();
        Checks.due("tight at once, so it is over at once", () -> once.count(3), 3);
        Checks.same("up to 10", Checks.valueOf(forge, "a"), "5..8 3 2");
        Checks.same("down to -10", Checks.valueOf(forge, "c"), "-8..-5 3 1");
        Checks.same("up to the greatest", Checks.valueOf(forge, "d"), "0..2147483646 7 0");
    }
}
