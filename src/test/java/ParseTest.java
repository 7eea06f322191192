/** Promises 4 and 5. */
public final class ParseTest {
    public static void main(String[] args) {
        programs();
        tokens();
        faults();
        missingEnds();
        depths();
        heights();
        fullTexts();
        whatStays();
        manyOneBehindTheOther();
        Checks.end();
    }

    private static void programs() {
        Checks.parses("", "0");
        Checks.parses(" \n ", "0");
        Checks.parses("a=1;", "1");
        Checks.parses("a=in;", "1");
        Checks.parses("A[1]=B[A[0]]+-2;", "1");
        Checks.parses("if(a<1){}", "1");
        Checks.parses("if(a<1){b=1;}else{b=2;c=3;}", "4");
        Checks.parses("if(a<1){}else{}a=1;", "2");
        Checks.parses("while(a!=0){a=a-1;}", "2");
        Checks.parses("assert(a==1);assert(1<=a);", "2");
        Checks.parses("f=(1+2)*3%-(4)-5/6;", "1");
        Checks.parses("while(1<2){if(1<2){while(1<2){a=1;}}}", "4");
    }

    private static void tokens() {
        Checks.parses(" a = 1 ;\n b=\n2;", "2");
        Checks.parses("a=999999999;", "1");
        Checks.parses("a=000000000;", "1");
        Checks.parses("a=1234567890;", "at 11");
        Checks.parses("a=1 2;", "at 4");
        Checks.parses("if(a= =1){}", "at 4");
        Checks.parses("if(a< =1){}", "at 6");
        Checks.parses("if(a<==1){}", "at 6");
        Checks.parses("if(a===1){}", "at 6");
        Checks.parses("if(a<-1){}", "1");
        Checks.parses("i f(a<1){}", "at 0");
        Checks.parses("iff(a<1){}", "at 0");
        Checks.parses("a=in1;", "at 4");
        Checks.parses("a=inn;", "at 2");
        Checks.parses("a=b c;", "at 4");
        Checks.parses("a=bc;", "at 2");
        Checks.parses("aA=1;", "at 0");
        Checks.parses("g=1;", "at 0");
        Checks.parses("C[0]=1;", "at 0");
        Checks.parses("IF(a<1){}", "at 0");
        Checks.parses("az=1;", "at 0");
        Checks.parses("aZ=1;", "at 0");
        Checks.parses("xf(a<1){}", "at 0");
        Checks.parses("a=on;", "at 2");
        Checks.parses("a=-x1;", "at 3");
        Checks.parses("a=(C1);", "at 3");
        Checks.parses("if(a<1){}else1", "at 13");
    }

    private static void faults() {
        Checks.parses("a=1;!", "at 4");
        Checks.parses("a=1;!=", "at 4");
        Checks.parses("a=1#;", "at 3");
        Checks.parses("if(a>1){}", "at 4");
        Checks.parses("if(a!1){}", "at 4");
        Checks.parses("a=1)#", "at 3");
        Checks.parses("a=1#)", "at 3");
        Checks.parses("1=a;", "at 0");
        Checks.parses(";", "at 0");
        Checks.parses("a=;", "at 2");
        Checks.parses("a==1;", "at 1");
        Checks.parses("a=in+1;", "at 4");
        Checks.parses("a=1+in;", "at 4");
        Checks.parses("A[0]=in;", "at 5");
        Checks.parses("A=1;", "at 1");
        Checks.parses("a[0]=1;", "at 1");
        Checks.parses("b=a[0];", "at 3");
        Checks.parses("b=A;", "at 3");
        Checks.parses("b=A[];", "at 4");
        Checks.parses("b=A[1;", "at 5");
        Checks.parses("b=(1;", "at 4");
        Checks.parses("b=();", "at 3");
        Checks.parses("b=+1;", "at 2");
        Checks.parses("b=1*;", "at 4");
        Checks.parses("b=1+*2;", "at 4");
        Checks.parses("if(a){}", "at 4");
        Checks.parses("if(a=1){}", "at 4");
        Checks.parses("if(a<1<2){}", "at 6");
        Checks.parses("if a<1{}", "at 3");
        Checks.parses("if(a<1)b=1;", "at 7");
        Checks.parses("if((a<1)){}", "at 5");
        Checks.parses("if(a<1){}else if(a<2){}", "at 14");
        Checks.parses("else{}", "at 0");
        Checks.parses("while(a<1){}else{}", "at 12");
        Checks.parses("in=1;", "at 0");
        Checks.parses("}", "at 0");
        Checks.parses("{}", "at 0");
        Checks.parses("a=1;}", "at 4");
        Checks.parses("assert(1<2)", "at 11");
        Checks.parses("assert 1<2;", "at 7");
        Checks.parses("assert(1<2){}", "at 11");
    }

    private static void missingEnds() {
        Checks.parses("a", "at 1");
        Checks.parses("a=", "at 2");
        Checks.parses("a=1", "at 3");
        Checks.parses("a=1 \n ", "at 6");
        Checks.parses("if(a<1){", "at 8");
        Checks.parses("if(a<1){a=1;", "at 12");
        Checks.parses("if(a<1){}else", "at 13");
        Checks.parses("while", "at 5");
        Checks.parses("a=(((", "at 5");
        Checks.parses("a=-", "at 3");
    }

    private static void depths() {
        String three = "if(1<2){if(1<2){if(1<2){";
        Checks.parses(three + "a=1;}}}", "4");
        Checks.parses(three + "if(1<2){}}}}", "at 31");
        Checks.parses(three + "while(1<2){", "at 34");
        Checks.parses(three + "while(1<2)a", "at 34");
        Checks.parses(three + "}else{if(1<2){}}}}", "at 37");
        Checks.parses(three + "}else{a=1;}}}a=2;", "5");
        Checks.parses("a=" + "-".repeat(10) + "1;", "1");
        Checks.parses("a=" + "-".repeat(11) + "1;", "at 13");
        Checks.parses("a=" + "(".repeat(10) + "1" + ")".repeat(10) + ";", "1");
        Checks.parses("a=" + "(".repeat(11) + "1" + ")".repeat(11) + ";", "at 13");
        Checks.parses("a=" + "(".repeat(11) + "#", "at 13");
        Checks.parses("a=" + "A[".repeat(10) + "1" + "]".repeat(10) + ";", "1");
        Checks.parses("a=" + "B[".repeat(11) + "1" + "]".repeat(11) + ";", "at 24");
        Checks.parses("A[" + "(".repeat(10) + "1" + ")".repeat(10) + "]=1;", "1");
        Checks.parses("A[" + "(".repeat(11) + "1" + ")".repeat(11) + "]=1;", "at 13");
        Checks.parses("a=-(-(-(-(-(1+-2*3)))));", "at 15");
        Checks.parses("a=-(-(-(-(-(1+2*3)))));", "1");
        Checks.parses("A[0]=" + "-".repeat(10) + "1;", "1");
        Checks.parses("A[0]=" + "-".repeat(11) + "1;", "at 16");
        Checks.parses("if(" + "-".repeat(10) + "1<" + "-".repeat(10) + "1){}", "1");
        Checks.parses("if(1<" + "-".repeat(11) + "1){}", "at 16");
        Checks.parses("if(" + "-".repeat(11) + "1<2){}", "at 14");
    }

    private static void heights() {
        Checks.parses("a=1" + "+1".repeat(15) + ";", "1");
        Checks.parses("a=1" + "+1".repeat(16) + ";", "at 33");
        Checks.parses("a=1" + "*1".repeat(15) + ";", "1");
        Checks.parses("a=1" + "%1".repeat(16) + ";", "at 33");
        Checks.parses("a=1" + "*1".repeat(15) + "-b;", "at 33");
        Checks.parses("a=b-1" + "*1".repeat(15) + ";", "1");
        Checks.parses("a=(1" + "+1".repeat(15) + ");", "1");
        Checks.parses("a=(1" + "+1".repeat(15) + ")/2;", "at 35");
        Checks.parses("a=(((1" + "+1".repeat(14) + ")))/2;", "1");
        Checks.parses("a=-(1" + "+1".repeat(14) + ")*2;", "at 34");
        Checks.parses("a=A[1" + "+1".repeat(14) + "]*2;", "at 34");
        Checks.parses("a=A[1" + "+1".repeat(13) + "]*2;", "1");
        Checks.parses("a=-(1" + "+1".repeat(15) + ");", "1");
        Checks.parses("a=-(1" + "+1".repeat(15) + ")+2;", "at 36");
        Checks.parses("if(1" + "+1".repeat(15) + "<1" + "+1".repeat(16) + "){}", "at 66");
    }

    private static void fullTexts() {
        Checks.parses("a=1;".repeat(50), "50");
        Checks.parses("a=1;".repeat(49) + "b=1", "at 199");
        Checks.parses("a=1;".repeat(49) + "b=1}", "at 199");
        Checks.parses("a=1;".repeat(49) + "b=1+", "at 200");
        Checks.parses("a=1;".repeat(49) + "b=12", "at 200");
        Checks.parses(" ".repeat(200), "0");
        Checks.parses(" ".repeat(199) + "a", "at 200");
        Checks.parses("(".repeat(200), "at 0");
        Checks.parses("a".repeat(200), "at 0");
    }

    private static void whatStays() {
        AlarmForge forge = Checks.written("a=5;b=6;");
        Checks.due("no parse yet", forge::where, -2);
        Checks.due("parse", forge::parse, 2);
        Checks.due("the text stays", () -> forge.count(0), 8);
        Checks.due("parse again", forge::parse, 2);
        Checks.write(forge, "c=");
        Checks.due("no program", forge::parse, "IllegalArgument");
        Checks.due("its place", forge::where, 10);
        Checks.due("its place still", forge::where, 10);
        Checks.due("the text stays", () -> forge.count(0), 10);
        Checks.due("the old one stays", () -> forge.count(2), 2);
        Checks.due("and runs", () -> forge.run(9), 0);
        Checks.due("as it was", () -> forge.ran(11), 6);
        Checks.due("and is gone through", forge::analyse, 0);
        Checks.write(forge, "7;");
        Checks.due("whole again", forge::parse, 3);
        Checks.due("no fault", forge::where, -2);
        Checks.due("the new one runs", () -> forge.run(9), 0);
        Checks.due("it is another", () -> forge.ran(12), 7);
        forge.clear();
        Checks.due("an empty one", forge::parse, 0);
        Checks.due("begins nothing", () -> forge.run(0), 0);
        Checks.due("its variables", () -> forge.ran(30), 1);
    }

    private static void put(AlarmForge forge, String text) {
        forge.clear();
        Checks.write(forge, text);
        Checks.same("parse of " + text, Checks.answer(forge::parse).startsWith("I"), false);
    }

    private static void manyOneBehindTheOther() {
        AlarmForge forge = new AlarmForge();
        for (int n = 0; n < 3; n++) {
            put(forge, "if(1<0){a=1;}else{b=2;}c=3;d=4;");
        }
        for (int n = 0; n < 3; n++) {
            put(forge, "if(1<0){a=1;}");
            Checks.due("no else", () -> forge.run(9), 0);
            Checks.due("one statement alone", () -> forge.ran(1), 1);
        }
        for (int n = 0; n < 3; n++) {
            put(forge, "if(0<1){}");
            forge.run(9);
            Checks.due("nothing in it", () -> forge.ran(1), 1);
        }
        String longest = "a=" + "1+1*(".repeat(10) + "1+1*1" + ")".repeat(10) + ";";
        for (int n = 0; n < 12; n++) {
            put(forge, longest);
            forge.run(9);
            Checks.due("its value", () -> forge.ran(10), 12);
        }
    }
}
