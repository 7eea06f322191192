/** Promises 9 and 10. */
public final class RunTest {
    public static void main(String[] args) {
        wrongLimits();
        errors();
        orderOfErrors();
        arithmetic();
        conds();
        fullConds();
        limits();
        whatRanTells();
        whatFailedCallsLeave();
        Checks.end();
    }

    private static void wrongLimits() {
        AlarmForge none = new AlarmForge();
        Checks.due("below 0", () -> none.run(-1), "IllegalArgument");
        Checks.due("above 500", () -> none.run(501), "IllegalArgument");
        Checks.due("nothing parsed", () -> none.run(0), "IllegalState");
        AlarmForge forge = Checks.parsed("a=1;");
        Checks.due("-1", () -> forge.run(-1), "IllegalArgument");
        Checks.due("501", () -> forge.run(501), "IllegalArgument");
        Checks.due("least", () -> forge.run(Integer.MIN_VALUE), "IllegalArgument");
        Checks.due("500", () -> forge.run(500), 0);
        Checks.due("0", () -> forge.run(0), -5);
    }

    private static void errors() {
        Checks.runs("a=b;", "IllegalState 1@2");
        Checks.runs("a=1;b=a+c;", "IllegalState 1@8");
        Checks.runs("a=A[4];", "IndexOutOfBounds 2@2");
        Checks.runs("a=A[3];a=B[-1];", "IndexOutOfBounds 2@9");
        Checks.runs("A[4]=1;", "IndexOutOfBounds 2@0");
        Checks.runs("A[0]=1; B[ -1 ]=1;", "IndexOutOfBounds 2@8");
        Checks.runs("a=999999999*3;", "Arithmetic 3@11");
        Checks.runs("a=999999999+999999999+147483649;", "0");
        Checks.runs("a=999999999+999999999+147483650;", "Arithmetic 3@21");
        Checks.runs("a=0-999999999-999999999-147483650;", "0");
        Checks.runs("a=0-999999999-999999999-147483651;", "Arithmetic 3@23");
        Checks.runs("a=-999999999-999999999-147483650;b=-a;", "Arithmetic 3@35");
        Checks.runs("a=-999999999-999999999-147483650;b=a/-1;", "Arithmetic 3@36");
        Checks.runs("a=-999999999-999999999-147483650;b=a%-1;", "0");
        Checks.runs("a=-999999999-999999999-147483650;b=a*-1;", "Arithmetic 3@36");
        Checks.runs("a=1/0;", "Arithmetic 4@3");
        Checks.runs("a=1%0;", "Arithmetic 4@3");
        Checks.runs("assert(1<1);", "UnsupportedOperation 5@0");
        Checks.runs("a=1; assert(a==2);", "UnsupportedOperation 5@5");
        Checks.runs("assert(1<=1);", "0");
        Checks.runs("if(a<1){}", "IllegalState 1@3");
        Checks.runs("while(1<B[9]){}", "IndexOutOfBounds 2@8");
    }

    private static void orderOfErrors() {
        Checks.runs("a=b+1/0;", "IllegalState 1@2");
        Checks.runs("a=1/0+b;", "Arithmetic 4@3");
        Checks.runs("a=1/(0*b);", "IllegalState 1@7");
        Checks.runs("A[4]=b;", "IndexOutOfBounds 2@0");
        Checks.runs("A[b]=c;", "IllegalState 1@2");
        Checks.runs("A[0]=1/0;", "Arithmetic 4@6");
        Checks.runs("a=A[A[9]+4];", "IndexOutOfBounds 2@4");
        Checks.runs("a=1-2-B[4]-A[5];", "IndexOutOfBounds 2@6");
        Checks.runs("if(a<1/0){}", "IllegalState 1@3");
        Checks.runs("assert(1/0<a);", "Arithmetic 4@8");
        Checks.runs("a=1;a=a+1/0;", "Arithmetic 4@9");
    }

    private static void value(String expr, int due) {
        AlarmForge forge = Checks.parsed("a=" + expr + ";");
        Checks.same("run of a=" + expr, Checks.answer(() -> forge.run(1)) + " " + forge.ran(10), "0 " + due);
    }

    private static void arithmetic() {
        value("7-2-1", 4);
        value("7-(2-1)", 6);
        value("2+3*4", 14);
        value("(2+3)*4", 20);
        value("100/7/2", 7);
        value("100/(7/2)", 33);
        value("17%7%2", 1);
        value("2*7/3", 4);
        value("2*(7/3)", 4);
        value("7/2*2", 6);
        value("-7/2", -3);
        value("-(7/2)", -3);
        value("7/-2", -3);
        value("-7%2", -1);
        value("7%-2", 1);
        value("-7%-4", -3);
        value("--5", 5);
        value("-2*-3", 6);
        value("3-A[2]", 3);
        value("000000012", 12);
        value("46340*46340", 2147395600);
        value("1+1*(1+1*(1+1*(1+1*(1+1*(1+1*(1+1*(1+1*(1+1*(1+1*(1+1*1))))))))))", 12);
    }

    private static void conds() {
        String[] signs = {"==", "!=", "<", "<="};
        String[] due = {"010", "101", "100", "110"};
        for (int i = 0; i < signs.length; i++) {
            StringBuilder got = new StringBuilder();
            for (int x = 4; x <= 6; x++) {
                AlarmForge forge = Checks.parsed("a=in;if(a" + signs[i] + "5){b=1;}else{b=0;}");
                forge.input(x);
                forge.run(9);
                got.append(forge.ran(11));
            }
            Checks.same("4 5 6 " + signs[i] + " 5", got.toString(), due[i]);
        }
    }

    private static void fullConds() {
        String full = "1+1*(".repeat(10) + "1+1*1" + ")".repeat(10);
        Checks.runs("assert(12==" + full + ");", "0");
        Checks.runs("assert(13==" + full + ");", "UnsupportedOperation 5@0");
        Checks.runs("assert(" + full + "<=" + full + ");", "0");
        Checks.warns("assert(12==" + full + ");", "");
        Checks.warns("assert(13==" + full + ");", "5@0");
        Checks.runs("A[0]=" + full + ";assert(A[0]==12);", "0");
        Checks.warns("A[0]=" + full + ";assert(A[0]==12);", "");
    }

    private static void limits() {
        AlarmForge forge = Checks.parsed("a=0;while(a<2){a=a+1;}b=1;");
        String[] due = {"-5 0 0", "-5 1 0", "-5 2 0", "-5 3 1", "-5 4 1", "-5 5 2", "-5 6 2", "0 7 2", "0 7 2"};
        for (int limit = 0; limit < due.length; limit++) {
            int n = limit;
            Checks.same("limit " + n,
                Checks.answer(() -> forge.run(n)) + " " + forge.ran(1) + " " + forge.ran(10), due[n]);
        }
        AlarmForge endless = Checks.parsed("while(0==0){}");
        Checks.due("without an end", () -> endless.run(500), -5);
        Checks.due("all begun", () -> endless.ran(1), 500);
        Checks.due("no error", () -> endless.ran(0), 0);
        AlarmForge nested = Checks.parsed("a=0;while(a<3){b=0;while(b<2){b=b+1;}a=a+1;}");
        Checks.due("nested", () -> nested.run(500), 0);
        Checks.due("nested begun", () -> nested.ran(1), 26);
        AlarmForge deep = Checks.parsed("a=0;while(a<2){if(a<5){b=0;while(b<2){A[b]=a;b=b+1;}}a=a+1;}");
        Checks.due("three deep", () -> deep.run(500), 0);
        Checks.due("three deep begun", () -> deep.ran(1), 24);
        Checks.due("three deep stored", () -> deep.ran(21), 1);
        AlarmForge deepIf = Checks.parsed("if(0==0){if(0==0){if(1==0){}else{a=7;}}}");
        Checks.due("three ifs", () -> deepIf.run(500), 0);
        Checks.due("its innermost", () -> deepIf.ran(10), 7);
        AlarmForge late = Checks.parsed("a=1;b=1/0;");
        Checks.due("stopped before the error", () -> late.run(1), -5);
        Checks.due("the error", () -> late.run(2), "Arithmetic");
        Checks.due("its statement is begun", () -> late.ran(1), 2);
        AlarmForge skipped = Checks.parsed("if(1<0){a=1;a=2;}else{b=1;}if(1<0){c=1;}");
        Checks.due("only what is done", () -> skipped.run(3), 0);
    }

    private static void whatRanTells() {
        AlarmForge forge = new AlarmForge();
        for (int what = -2; what < 40; what++) {
            int w = what;
            boolean known = w >= 0 && w <= 2 || w >= 10 && w <= 15 || w >= 20 && w <= 27 || w >= 30 && w <= 35;
            String due = !known ? "IllegalArgument" : w >= 30 ? "1" : "0";
            Checks.due("ran " + w + " before a run", () -> forge.ran(w), due);
        }
        AlarmForge full = Checks.parsed("a=in;f=-3;A[0]=4;A[3]=5;B[0]=6;B[3]=a;b=in;A[1]=A[3]/c;");
        full.input(9);
        Checks.due("unset c", () -> full.run(20), "IllegalState");
        int[][] due = {{0, 1024 + 53}, {1, 8}, {2, 1}, {10, 9}, {11, 0}, {12, 0}, {15, -3}, {20, 4}, {21, 0},
            {22, 0}, {23, 5}, {24, 6}, {25, 0}, {27, 9}, {30, 0}, {31, 0}, {32, 1}, {33, 1}, {34, 1}, {35, 0}};
        for (int[] d : due) {
            Checks.due("ran " + d[0], () -> full.ran(d[0]), d[1]);
        }
        full.run(1);
        Checks.due("a new one begins anew: error", () -> full.ran(0), 0);
        Checks.due("variable", () -> full.ran(15), 0);
        Checks.due("cell", () -> full.ran(23), 0);
        Checks.due("first cell", () -> full.ran(20), 0);
        Checks.due("last cell", () -> full.ran(27), 0);
        Checks.due("unset", () -> full.ran(35), 1);
    }

    private static void whatFailedCallsLeave() {
        AlarmForge forge = Checks.parsed("a=8;");
        forge.run(5);
        Checks.due("wrong limit", () -> forge.run(501), "IllegalArgument");
        Checks.due("the latest run stays", () -> forge.ran(10), 8);
        forge.clear();
        Checks.write(forge, "a=9;");
        forge.parse();
        Checks.due("parse leaves it too", () -> forge.ran(10), 8);
        forge.analyse();
        Checks.due("and so does analyse", () -> forge.ran(1), 1);
    }
}
