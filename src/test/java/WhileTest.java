/** Promises 11 to 14: how whiles are gone through. */
public final class WhileTest {
    private static final String ALL = "-2147483648..2147483647 1 0";

    public static void main(String[] args) {
        steps();
        rests();
        endsThatStay();
        passes();
        patience();
        mayBeUnset();
        onlyTheLastTime();
        whilesInWhiles();
        Checks.end();
    }

    private static AlarmForge with(int unroll, int narrow, String text) {
        AlarmForge forge = Checks.parsed(text);
        forge.choose(0, unroll);
        forge.choose(1, narrow);
        forge.analyse();
        return forge;
    }

    private static void leaves(int unroll, int narrow, String text, String name, String due) {
        Checks.same(unroll + " " + narrow + " " + text, Checks.valueOf(with(unroll, narrow, text), name), due);
    }

    private static void up(int from, int to, String due) {
        leaves(0, 0, "a=" + from + ";while(a<" + to + "){a=a+1;}", "a", due);
    }

    private static void down(int from, int to, String due) {
        leaves(0, 0, "a=" + from + ";while(" + to + "<a){a=a-1;}", "a", due);
    }

    private static void steps() {
        up(-200, -150, "-150..-100 1 0");
        up(-50, -30, "-30..-10 1 0");
        up(-9, -5, "-5..-1 1 0");
        up(-1, 0, "0..0 0 0");
        up(0, 1, "1..1 0 1");
        up(1, 2, "2..10 1 0");
        up(9, 10, "10..10 0 10");
        up(10, 11, "11..100 1 0");
        up(20, 30, "30..100 1 0");
        up(101, 105, "105..2147483647 1 0");
        down(300, 200, "100..200 1 0");
        down(50, 30, "10..30 1 0");
        down(9, 5, "1..5 1 0");
        down(1, 0, "0..0 0 0");
        down(0, -1, "-1..-1 0 -1");
        down(-1, -2, "-10..-2 1 0");
        down(-20, -30, "-100..-30 1 0");
        down(-101, -105, "-2147483648..-105 1 0");
    }

    private static void rests() {
        leaves(0, 0, "a=0;b=in;while(b!=0){a=a+3;b=in;}", "a", "0..2147483646 3 0");
        leaves(0, 0, "a=0;b=in;while(b!=0){a=a-3;b=in;}", "a", "-2147483646..0 3 0");
        leaves(1, 1, "a=0;while(a<10){a=a+3;}", "a", "12..12 0 12");
        leaves(1, 0, "a=0;while(a<10){a=a+3;}", "a", "12..99 3 0");
        leaves(1, 1, "a=1;while(a!=9){a=a+2;}", "a", "9..9 0 9");
        leaves(1, 1, "a=1;while(a!=8){a=a+2;}", "a", "dead");
        leaves(1, 0, "a=5;while(a<50){a=a*3;}", "a", "55..2147483645 10 5");
        leaves(1, 1, "a=5;while(a<50){a=a*3;}", "a", "55..135 10 5");
    }

    private static void endsThatStay() {
        leaves(0, 0, "a=5;b=in;while(b!=0){a=a+1;b=in;}", "a", "5..2147483647 1 0");
        leaves(0, 0, "a=5;b=in;while(b!=0){a=a-1;b=in;}", "a", "-2147483648..5 1 0");
        leaves(0, 0, "a=5;b=in;while(b!=0){a=7;b=in;}", "a", "5..9 2 1");
        leaves(0, 0, "b=in;while(b!=0){a=5;b=in;}", "a", "5..5 0 5");
        leaves(0, 0, "b=in;while(b!=0){a=b%5;b=in;}", "a", "-4..4 1 0");
        AlarmForge twice = with(1, 0, "b=1;");
        twice.clear();
        Checks.write(twice, "a=in;while(a<9){b=1;a=in;}");
        twice.parse();
        twice.analyse();
        Checks.same("only b changes", Checks.valueOf(twice, "b"), "1..1 0 1");
    }

    private static void passes() {
        Checks.due("one while", () -> with(1, 1, "a=0;while(a<10){a=a+3;}").count(3), 6);
        Checks.due("no narrowing", () -> with(1, 0, "a=0;while(a<10){a=a+3;}").count(3), 5);
        Checks.due("narrowed five times", () -> with(1, 5, "a=0;while(a<10){a=a+3;}").count(3), 10);
        Checks.due("nothing changes", () -> with(1, 1, "a=in;while(a<10){a=in;}").count(3), 3);
        Checks.due("never taken", () -> with(1, 1, "a=1;while(a<1){b=1;}").count(3), 3);
        Checks.due("two of them", () -> with(0, 0, "a=in;while(a<1){}while(a<2){}").count(3), 4);
        Checks.due("not come to", () -> with(1, 1, "if(1<0){while(0==0){}}").count(3), 0);
        Checks.due("behind the end", () -> with(1, 1, "a=1/0;while(0==0){}").count(3), 0);
        Checks.due("without a while", () -> with(1, 1, "a=1;if(a<2){a=3;}").count(3), 0);
        Checks.due("one in another", () -> with(0, 0, "a=in;b=in;while(a<b){while(b<a){}}").count(3), 6);
        leaves(1, 1, "while(0==0){}", "A0", "dead");
        leaves(1, 1, "a=1;while(a<1){b=1;}", "a", "1..1 0 1");
        leaves(1, 1, "a=1;while(a<1){b=1;}", "b", "nothing");
    }

    private static void patience() {
        String slow = "a=0;b=0;c=0;d=0;e=0;f=0;while(B[0]!=1){a=a+1;if(99<a){b=b+1;}if(99<b){c=c+1;}"
            + "if(99<c){d=d+1;}if(99<d){e=e+1;}if(99<e){f=f+1;}}";
        Checks.due("twenty changes", () -> with(2, 0, slow).count(3), 22);
        leaves(2, 0, slow, "B0", "dead");
        Checks.due("one more", () -> with(3, 0, slow).count(3), 23);
        leaves(3, 0, slow, "a", ALL);
        leaves(3, 0, slow, "A3", ALL);
        leaves(3, 0, slow, "B0", ALL);
        leaves(3, 1, slow, "a", "-2147483647..2147483647 1 0");
        Checks.due("none is unset", () -> with(3, 0, slow).left(5, 4), 0);
        AlarmForge open = with(5, 0, slow.replace("f=0;", "").replace("f=f+1", "A[1]=A[1]+1"));
        Checks.same("never set", Checks.valueOf(open, "f"), ALL);
        Checks.due("may be unset still", () -> open.left(5, 4), 1);
    }

    private static void mayBeUnset() {
        AlarmForge forge = with(1, 1, "a=in;while(a<9){b=a;a=a+1;}");
        Checks.due("set only inside", () -> forge.left(1, 4), 1);
        Checks.same("its value", Checks.valueOf(forge, "b"), "-2147483648..8 1 0");
        Checks.due("set before", () -> forge.left(0, 4), 0);
        Checks.same("warned behind", Checks.warningsOf(with(1, 1, "a=0;while(a<9){b=a;a=a+1;}c=b;")), "1@28");
        Checks.same("set before it is read", Checks.warningsOf(with(1, 1, "a=0;while(a<9){b=a;a=b+1;}")), "");
        Checks.same("read before it is set", Checks.warningsOf(with(1, 1, "a=0;while(a<9){if(0<a){a=b;}b=a;a=a+1;}")), "1@25");
    }

    private static void onlyTheLastTime() {
        String text = "a=0;c=0;while(a<3){A[c]=1;a=a+1;c=a;}";
        Checks.same("narrowed", Checks.warningsOf(with(1, 1, text)), "");
        Checks.same("not narrowed", Checks.warningsOf(with(1, 0, text)), "2@19");
        Checks.same("the cond too", Checks.warningsOf(with(1, 0, "a=0;c=0;while(A[c]<a){a=a+1;}")), "");
        Checks.same("overflow", Checks.warningsOf(with(1, 1, "a=0;while(0==0){a=a+1;}")), "3@19");
    }

    private static void whilesInWhiles() {
        // The last time of the inner one counts in each pass of the outer one, wide ones too.
        String text = "a=0;c=0;while(a<3){b=0;while(b<1){A[c]=1;b=b+1;}a=a+1;c=a;}";
        Checks.same("inner", Checks.warningsOf(with(1, 1, text)), "2@34");
        String behind = "a=0;c=0;while(a<3){b=0;while(b<1){b=b+1;}A[c]=1;a=a+1;c=a;}";
        Checks.same("behind the inner one", Checks.warningsOf(with(1, 1, behind)), "");
        leaves(1, 1, "a=0;while(a<3){b=0;while(b<4){A[b]=a;b=b+1;}a=a+1;}", "a", "3..3 0 3");
        Checks.same("no index beyond", Checks.warningsOf(
            with(1, 1, "a=0;while(a<3){b=0;while(b<4){A[b]=a;b=b+1;}a=a+1;}")), "");
        leaves(1, 1, "a=0;while(a<2){b=0;while(b<2){c=0;while(c<2){c=c+1;}b=b+1;}a=a+1;}", "c", "2..2 0 2");
    }
}
