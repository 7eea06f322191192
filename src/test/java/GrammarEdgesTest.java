/** Boundary cases of the grammar, its depths and HEIGHT, and of promises 4 and 5. */
public final class GrammarEdgesTest {
    public static void main(String[] args) {
        emptyRepetitions();
        optionalElse();
        whereInStands();
        forms();
        groupsToTheLeft();
        blockDepth();
        factorDepth();
        factorDepthFromNought();
        faultOfWhatLiesDeeper();
        heightOfLeftPart();
        heightsOfOnes();
        heightsOneMore();
        heightsOfOperators();
        statementsCounted();
        textStays();
        refusedParse();
        firstTokenThatDoesNotGoOn();
        tooDeepBeforeOthers();
        firstCharacterOfNoToken();
        endIsMissing();
        ofTheLatestParse();
        noFault();
        Checks.end();
    }

    private static void emptyRepetitions() {
        Checks.sentence("PROGRAM = { STATEMENT }");
        Checks.parses("", "0");
        Checks.runsAsMarked("");
        Checks.warnsAsMarked("");
        Checks.sentence("BLOCK = { { STATEMENT } }");
        Checks.parses("if(1<2){}", "1");
        Checks.parses("if(1<2){}else{}", "1");
        Checks.parses("while(2<1){}", "1");
        Checks.runsAsMarked("if(1<2){}else{}while(2<1){}");
        Checks.warnsAsMarked("if(1<2){}else{}while(2<1){}");
        Checks.faultAtMark("if(1<2)^;");
        Checks.faultAtMark("if(1<2){}^}");
        Checks.faultAtMark("^{}");
    }

    private static void optionalElse() {
        Checks.sentence("if ( COND ) BLOCK [ else BLOCK ]");
        Checks.parses("if(1<2){a=1;}", "2");
        Checks.parses("if(1<2){a=1;}else{a=2;}", "3");
        Checks.parses("if(1<2){if(1<2){}}else{}", "2");
        Checks.faultAtMark("if(1<2){}else{}^else{}");
        Checks.faultAtMark("while(1<2){}^else{}");
        Checks.faultAtMark("if(1<2){}else ^if(1<2){}");
        Checks.faultAtMark("^else{}");
        Checks.faultAtMark("a=1;^else{}");
    }

    private static void whereInStands() {
        Checks.sentence("VARIABLE = in ;");
        Checks.parses("a=in;", "1");
        Checks.faultAtMark("a=in^+1;");
        Checks.faultAtMark("a=1+^in;");
        Checks.faultAtMark("a=(^in);");
        Checks.faultAtMark("a=-^in;");
        Checks.faultAtMark("A[^in]=1;");
        Checks.faultAtMark("A[0]=^in;");
        Checks.faultAtMark("if(^in<1){}");
        Checks.faultAtMark("assert(1==^in);");
        Checks.faultAtMark("^in=1;");
    }

    private static void forms() {
        Checks.sentence("COND = EXPR ( == | != | < | <= ) EXPR");
        for (String sign : new String[] {"==", "!=", "<", "<="}) {
            Checks.parses("assert(1+2" + sign + "3*A[0]);", "1");
            Checks.faultAtMark("assert(1" + sign + "2^" + sign + "3);");
            Checks.faultAtMark("assert((1^" + sign + "2));");
            Checks.faultAtMark("assert(1" + sign + "^);");
            Checks.faultAtMark("assert(^" + sign + "1);");
            Checks.faultAtMark("a=1^" + sign + "2;");
        }
        Checks.sentence("FACTOR = - FACTOR | NUMERAL | VARIABLE | ARRAY [ EXPR ] | ( EXPR )");
        Checks.parses("a=-1;a=1;a=b;a=A[1];a=(1);a=-A[-(-1)];a=1--1;a=1*-1;a=-(b);", "9");
        Checks.faultAtMark("a=-^;");
        Checks.faultAtMark("a=^+1;");
        Checks.faultAtMark("a=1+^+1;");
        Checks.faultAtMark("a=1*^/1;");
        Checks.faultAtMark("a=(^);");
        Checks.faultAtMark("a=A[^];");
        Checks.faultAtMark("a=A^(1);");
        Checks.faultAtMark("a=b^[1];");
        Checks.faultAtMark("a=(1^];");
        Checks.faultAtMark("a=(1)^(1);");
        Checks.faultAtMark("a=A[1]^[1];");
    }

    private static void groupsToTheLeft() {
        Checks.sentence("(repetitions group to the left)");
        Checks.runsAsMarked("assert(9-3-2==4);assert(9-(3-2)==8);");
        Checks.runsAsMarked("assert(9-3+2==8);assert(9-(3+2)==4);");
        Checks.runsAsMarked("assert(48/4/3==4);assert(48/(4/3)==48);");
        Checks.runsAsMarked("assert(7/2*2==6);assert(7*2/2==7);");
        Checks.runsAsMarked("assert(19%7%3==2);assert(19%(7%3)==0);");
        Checks.runsAsMarked("assert(2+3*4==14);assert(2*3+4==10);assert(14-6/2==11);");
        Checks.runsAsMarked("assert(-7+2==-5);assert(-7*2+20==6);assert(-7/2==-3);");
        Checks.warnsAsMarked("assert(9-3-2==4);assert(48/4/3==4);assert(19%7%3==2);");
    }

    private static void blockDepth() {
        Checks.sentence("BLOCKS lie at most 3 deep (a BLOCK not in another one 1)");
        String[] opening = {"if(1<2){", "while(1<2){", "if(1<2){}else{"};
        for (String a : opening) {
            for (String b : opening) {
                for (String c : opening) {
                    Checks.parses(a + b + c + "a=1;}}}", "4");
                    Checks.faultAtMark(a + b + c + "if(1<2)^{}}}}");
                    Checks.faultAtMark(a + b + c + "while(1<2)^{}}}}");
                    Checks.faultAtMark(a + b + c + "}}}^}");
                }
            }
        }
        for (String start : new String[] {"if(a<3){", "while(a<3){", "if(5<a){}else{"}) {
            String deepest = "a=0;" + start + start + start + "a=a+3;}}}assert(a==3);";
            Checks.runsAsMarked(deepest);
            Checks.warnsAsMarked(deepest);
        }
        Checks.faultAtMark("if(1<2){if(1<2){if(1<2){}else{a=1;if(1<2)^{}else{}}}}");
        Checks.parses("if(1<2){if(1<2){if(1<2){}}if(1<2){}else{}}if(1<2){if(1<2){if(1<2){}}}", "7");
    }

    private static String nested(String opening, int times, String inner, String closing) {
        return opening.repeat(times) + inner + closing.repeat(times);
    }

    private static void factorDepth() {
        Checks.sentence("FACTORS at most 10 (an EXPR in ( ) or [ ] of a FACTOR 1 deeper than that, the"
            + " FACTOR behind a - likewise");
        Checks.parses("a=" + nested("(", 10, "1", ")") + ";", "1");
        Checks.faultAtMark("a=" + nested("(", 11, "^1", ")") + ";");
        Checks.parses("a=" + nested("A[", 10, "1", "]") + ";", "1");
        Checks.faultAtMark("a=" + nested("A[", 11, "^1", "]") + ";");
        Checks.parses("a=" + nested("-", 10, "1", "") + ";", "1");
        Checks.faultAtMark("a=" + nested("-", 11, "^1", "") + ";");
        Checks.parses("a=-" + nested("(-B[", 3, "1", "])") + ";", "1");
        Checks.faultAtMark("a=-(" + nested("(-B[", 3, "^1", "])") + ");");
        Checks.faultAtMark("a=-(" + nested("(-B[", 3, "^b", "])") + ");");
        Checks.parses("a=" + nested("(", 10, "1+2*3-4", ")") + ";", "1");
        Checks.parses("a=" + nested("(1+2*", 10, "1*2+3", ")") + ";", "1");
        // As many parts as can wait for others: a sum's and a product's at each depth, and a COND's.
        String full = nested("1+1*(", 10, "1+1*1", ")");
        for (String statement : new String[] {"a=" + full + ";assert(a==12);", "B[0]=" + full + ";assert(B[0]==12);",
            "assert(12==" + full + ");", "assert(" + full + "==12);"}) {
            Checks.runsAsMarked(statement);
            Checks.warnsAsMarked(statement);
        }
        Checks.runsAsMarked("A[" + nested("0+1*(", 10, "0+1*3", ")") + "]=1;assert(A[3]==1);");
        Checks.runsAsMarked("^5assert(13==" + full + ");");
        Checks.faultAtMark("a=" + nested("(", 9, "1+-(^2)", ")") + ";");
        Checks.faultAtMark("a=" + nested("(", 10, "1+2*-^3", ")") + ";");
        Checks.parses("a=(1)+(2)*(3)-(((4)))+((((((((((5))))))))));", "1");
    }

    private static void factorDepthFromNought() {
        Checks.sentence("those of EXPRS in STATEMENTS and CONDS 0");
        String ten = nested("-", 10, "1", "");
        String eleven = nested("-", 11, "^1", "");
        String[][] around = {{"a=", ";"}, {"A[", "]=1;"}, {"B[1]=", ";"}, {"if(", "<1){}"}, {"if(1<", "){}"},
            {"while(", "==1){}"}, {"while(1!=", "){}"}, {"assert(", "<=1);"}, {"assert(1<=", ");"},
            {"if(1<2){a=", ";}"}, {"if(1<2){if(1<2){if(1<2){a=1+2*", ";}}}"}, {"a=1-", ";"}, {"a=1*", ";"}};
        for (String[] both : around) {
            Checks.parses(both[0] + ten + both[1], both[0].contains("{if") ? "4" : both[0].contains("{") ? "2" : "1");
            Checks.faultAtMark(both[0] + eleven + both[1]);
        }
    }

    private static void faultOfWhatLiesDeeper() {
        Checks.sentence("what lies deeper is a fault at its first TOKEN");
        Checks.faultAtMark("a=" + "(".repeat(11) + "^b");
        Checks.faultAtMark("a=" + "(".repeat(11) + "^(1");
        Checks.faultAtMark("a=" + "(".repeat(11) + "^-1");
        Checks.faultAtMark("a=" + "(".repeat(11) + "  \n^A[0]");
        Checks.faultAtMark("a=" + "-".repeat(11) + "^-1;");
        Checks.faultAtMark("a=" + "A[".repeat(11) + "^A[1;");
        Checks.faultAtMark("if(1<2){while(1<2){if(1<2){while(1<2) \n ^{a=1;}}}}");
    }

    private static void heightOfLeftPart() {
        Checks.sentence("So is an operator + - * / % whose left part has HEIGHT 16");
        for (String sign : new String[] {"+", "-", "*", "/", "%"}) {
            Checks.parses("a=1" + (sign + "1").repeat(15) + ";", "1");
            Checks.faultAtMark("a=1" + (sign + "1").repeat(15) + "^" + sign + "1;");
            Checks.faultAtMark("a=1" + (sign + "1").repeat(15) + " ^" + sign);
            Checks.parses("a=(1" + "+1".repeat(14) + ")" + sign + "1;", "1");
            Checks.faultAtMark("a=(1" + "+1".repeat(15) + ")^" + sign + "1;");
            Checks.parses("a=1" + sign + "(1" + "+1".repeat(15) + ");", "1");
            // What is higher still is refused likewise.
            Checks.faultAtMark("a=1" + sign + "(1" + "+1".repeat(15) + ")^" + sign + "1;");
        }
        Checks.parses("if(1" + "+1".repeat(15) + "<1" + "+1".repeat(15) + "){}", "1");
        Checks.faultAtMark("if(1" + "+1".repeat(15) + "<1" + "+1".repeat(15) + "^+1){}");
        Checks.parses("A[1" + "+1".repeat(15) + "]=1" + "+1".repeat(15) + ";", "1");
        Checks.faultAtMark("A[1" + "+1".repeat(15) + "^+1]=1;");
        Checks.faultAtMark("A[1]=1" + "+1".repeat(15) + "^+1;");
    }

    private static void heightsOfOnes() {
        Checks.sentence("NUMERALS and VARIABLES have HEIGHT 1");
        Checks.parses("a=123456789" + "+2".repeat(15) + ";", "1");
        Checks.faultAtMark("a=123456789" + "+2".repeat(15) + "^+2;");
        Checks.parses("a=b" + "+b".repeat(15) + ";", "1");
        Checks.faultAtMark("a=b" + "+b".repeat(15) + "^+b;");
        Checks.parses("a=((b))" + "+((1))".repeat(15) + ";", "1");
        Checks.faultAtMark("a=((b))" + "+((1))".repeat(15) + "^+1;");
    }

    private static void heightsOneMore() {
        Checks.sentence("ARRAY [ e ] and - e 1 more than e");
        Checks.parses("a=A[1]" + "+1".repeat(14) + ";", "1");
        Checks.faultAtMark("a=A[1]" + "+1".repeat(14) + "^+1;");
        Checks.parses("a=-1" + "+1".repeat(14) + ";", "1");
        Checks.faultAtMark("a=-1" + "+1".repeat(14) + "^+1;");
        Checks.parses("a=" + "-".repeat(10) + "b" + "+1".repeat(5) + ";", "1");
        Checks.faultAtMark("a=" + "-".repeat(10) + "b" + "+1".repeat(5) + "^+1;");
        Checks.parses("a=" + nested("A[", 10, "b", "]") + "+1".repeat(5) + ";", "1");
        Checks.faultAtMark("a=" + nested("A[", 10, "b", "]") + "+1".repeat(5) + "^+1;");
        Checks.parses("a=-A[1" + "*1".repeat(12) + "]*1;", "1");
        Checks.faultAtMark("a=-A[1" + "*1".repeat(13) + "]^*1;");
    }

    private static void heightsOfOperators() {
        Checks.sentence("others 1 more than the higher one of their parts");
        Checks.parses("a=1+1" + "*1".repeat(13) + "+1;", "1");
        Checks.faultAtMark("a=1+1" + "*1".repeat(14) + "^+1;");
        Checks.parses("a=1*(1" + "+1".repeat(13) + ")*1;", "1");
        Checks.faultAtMark("a=1*(1" + "+1".repeat(14) + ")^*1;");
        Checks.parses("a=(1" + "+1".repeat(7) + ")*(1" + "+1".repeat(7) + ")" + "*1".repeat(7) + ";", "1");
        Checks.faultAtMark("a=(1" + "+1".repeat(7) + ")*(1" + "+1".repeat(7) + ")" + "*1".repeat(7) + "^*1;");
        Checks.parses("a=1" + "+1*1".repeat(13) + "+1;", "1");
        Checks.faultAtMark("a=1" + "+1*1".repeat(14) + "^+1;");
    }

    private static void statementsCounted() {
        Checks.sentence("how many STATEMENTS it has, those in BLOCKS too");
        Checks.parses("", "0");
        Checks.parses("a=1;", "1");
        Checks.parses("a=1;".repeat(50), "50");
        Checks.parses("a=1;".repeat(46) + "if(1<2){b=1;}", "48");
        Checks.parses("if(1<2){a=1;b=1;}else{while(1<2){A[0]=1;assert(1<2);}c=in;}", "7");
        AlarmForge forge = Checks.written("if(1<2){a=1;}else{a=2;}");
        Checks.due("parse", forge::parse, 3);
        Checks.due("counted", () -> forge.count(2), 3);
    }

    private static void textStays() {
        Checks.sentence("The TEXT, which stays, is parsed");
        AlarmForge forge = Checks.written("a=1;");
        Checks.due("parse", forge::parse, 1);
        Checks.due("characters", () -> forge.count(0), 4);
        Checks.due("parse again", forge::parse, 1);
        Checks.write(forge, "b=");
        Checks.due("no program", forge::parse, "IllegalArgument");
        Checks.due("characters then", () -> forge.count(0), 6);
        Checks.due("no program again", forge::parse, "IllegalArgument");
        Checks.write(forge, "2;");
        Checks.due("gone on with", forge::parse, 2);
        parsedAnew();
    }

    /** Nothing of what was parsed before is in what is parsed now. */
    private static void parsedAnew() {
        AlarmForge forge = new AlarmForge();
        String[] texts = {"if(2<1){a=1;}else{b=2;}c=3;", "if(2<1){a=1;}", "if(1<2){}",
            "a=" + nested("1+1*(", 10, "1+1*1", ")") + ";"};
        String[] due = {"3 begun", "1 begun", "1 begun", "1 begun"};
        for (int n = 0; n < 30; n++) {
            int i = Math.min(n / 6, 3);
            forge.clear();
            Checks.write(forge, texts[i]);
            forge.parse();
            Checks.due("run of " + texts[i], () -> forge.run(9), 0);
            Checks.same("anew " + texts[i], forge.ran(1) + " begun", due[i]);
        }
        Checks.due("the last one", () -> forge.ran(10), 12);
    }

    private static void refusedParse() {
        Checks.sentence("IllegalArgumentException if it is no PROGRAM; the one that was parsed stays then.");
        String[] texts = {"a", "a=1;}", "#", "if(1<2){if(1<2){if(1<2){if(1<2){}}}}", "b=7;b=8;c=", "a=1".repeat(60)};
        for (String text : texts) {
            AlarmForge forge = withPlan(text);
            Checks.due("parse of " + text, forge::parse, "IllegalArgument");
            AlarmForge twin = withPlan(text);
            // That the fault is found is all that differs.
            Checks.same("behind it", withoutWhere(Checks.lookAtAll(forge)), withoutWhere(Checks.lookAtAll(twin)));
        }
        AlarmForge none = Checks.written("a=");
        Checks.due("no program, none before", none::parse, "IllegalArgument");
        Checks.due("so nothing is parsed to run", () -> none.run(1), "IllegalState");
        Checks.due("nor to go through", none::analyse, "IllegalState");
        Checks.due("nor to count", () -> none.count(2), 0);
    }

    /** An object that has parsed, run and gone through one text, and has another one now. */
    private static AlarmForge withPlan(String text) {
        AlarmForge forge = Checks.parsed("a=in;if(a<5){A[1]=a;}else{b=6;}while(a<9){a=a+1;}");
        forge.input(2);
        forge.run(4);
        forge.analyse();
        forge.clear();
        Checks.write(forge, text);
        return forge;
    }

    private static String withoutWhere(String all) {
        return all.replaceFirst("where: -?[0-9]+; ", "");
    }

    private static void firstTokenThatDoesNotGoOn() {
        Checks.sentence("the place of the first TOKEN with which none goes on so");
        Checks.faultAtMark("^;");
        Checks.faultAtMark("^1=a;");
        Checks.faultAtMark("a^;");
        Checks.faultAtMark("a=^;");
        Checks.faultAtMark("a=1^)");
        Checks.faultAtMark("a=1;^)");
        Checks.faultAtMark("a=(1^;");
        Checks.faultAtMark("a=A[1^);");
        Checks.faultAtMark("a=^[1];");
        Checks.faultAtMark("a^[1]=1;");
        Checks.faultAtMark("A^=1;");
        Checks.faultAtMark("A[1]^;");
        Checks.faultAtMark("a=A^;");
        Checks.faultAtMark("if^{");
        Checks.faultAtMark("if(1^){}");
        Checks.faultAtMark("if((1^<2)){}");
        Checks.faultAtMark("if(1<2^<3){}");
        Checks.faultAtMark("while(1<2)^a=1;");
        Checks.faultAtMark("assert(1<2)^{}");
        Checks.faultAtMark("assert ^1<2;");
        Checks.faultAtMark("if(1<2){a=1;^)b=;");
        Checks.faultAtMark("a=1;".repeat(49) + "b=1^}");
        Checks.faultAtMark("^(" + "(".repeat(199));
    }

    private static void tooDeepBeforeOthers() {
        Checks.sentence("or that lies too deep");
        Checks.faultAtMark("a=" + "(".repeat(11) + "^1;;;");
        Checks.faultAtMark("a=" + "(".repeat(11) + "^1#");
        Checks.faultAtMark("if(1<2){if(1<2){if(1<2){if(1<2)^{a=;");
        Checks.faultAtMark("a=1" + "+1".repeat(15) + "^+;");
        Checks.faultAtMark("a=^;" + "(".repeat(20));
    }

    private static void firstCharacterOfNoToken() {
        Checks.sentence("or of the first character that belongs to no TOKEN, if that is before it");
        Checks.faultAtMark("^#");
        Checks.faultAtMark("^#a=;");
        Checks.faultAtMark("a=1;^#a=;");
        Checks.faultAtMark("a=1^#;");
        Checks.faultAtMark("a=^;#");
        Checks.faultAtMark("a=1;^)#");
        Checks.faultAtMark("a=1;   ^?");
        Checks.faultAtMark("a=1;^xyz=2;");
        Checks.faultAtMark("a=1^xyz=2;");
        Checks.faultAtMark("a=(^;xyz");
        Checks.faultAtMark("if(1^>2){}");
        Checks.faultAtMark("a=" + "(".repeat(11) + "^#");
        Checks.faultAtMark("a=" + "(".repeat(10) + "^#1");
        Checks.faultAtMark("a=1;".repeat(49) + "b=1^~");
    }

    private static void endIsMissing() {
        Checks.sentence("how many characters there are, if the end is missing");
        String[] tokens = ("if ( a <= B [ 1 ] ) { a = - ( 2 ) * 3 ; } else { while ( a != 1 ) { b = in ; } "
            + "assert ( 1 == 1 ) ; } A [ 1 ] = 2 ;").split(" ");
        String[] whole = {"0", "2", "5", "6"};
        int wholeSeen = 0;
        StringBuilder start = new StringBuilder();
        for (int n = 0; n <= tokens.length; n++) {
            boolean ends = n == 0 || n == tokens.length || tokens[n].equals("else") || tokens[n].equals("A");
            Checks.parses(start.toString(), ends ? whole[wholeSeen] : "at " + start.length());
            wholeSeen += ends ? 1 : 0;
            start.append(n < tokens.length ? tokens[n] : "");
        }
        Checks.faultAtMark("a=1 ^");
        Checks.faultAtMark("a=1\n\n  ^");
        Checks.faultAtMark(" ".repeat(198) + "a=^");
        Checks.faultAtMark("a=1;".repeat(49) + "b=12^");
        Checks.faultAtMark("a=1;".repeat(49) + "b=1+^");
    }

    private static void ofTheLatestParse() {
        Checks.sentence("Where the latest parse found no PROGRAM");
        AlarmForge forge = Checks.written("a=1;#");
        Checks.due("a first", forge::parse, "IllegalArgument");
        Checks.due("its fault", forge::where, 4);
        forge.clear();
        Checks.write(forge, "a=");
        Checks.due("not parsed yet", forge::where, 4);
        Checks.due("a second", forge::parse, "IllegalArgument");
        Checks.due("its fault then", forge::where, 2);
        Checks.write(forge, "1");
        Checks.due("a third", forge::parse, "IllegalArgument");
        Checks.due("its fault last", forge::where, 3);
    }

    private static void noFault() {
        Checks.sentence("-2 if it found one, or there was none.");
        AlarmForge forge = new AlarmForge();
        Checks.due("no parse", forge::where, -2);
        Checks.write(forge, "a=#");
        Checks.due("no parse of a text", forge::where, -2);
        Checks.due("parse", forge::parse, "IllegalArgument");
        Checks.due("its fault", forge::where, 2);
        forge.clear();
        Checks.write(forge, "a=1;");
        Checks.due("clear and text leave it", forge::where, 2);
        forge.parse();
        Checks.due("a program found", forge::where, -2);
        forge.run(1);
        forge.analyse();
        Checks.due("still", forge::where, -2);
        forge.clear();
        Checks.write(forge, "#");
        Checks.due("a later one", forge::parse, "IllegalArgument");
        Checks.due("its fault at the first place", forge::where, 0);
        forge.clear();
        forge.parse();
        Checks.due("an empty program found", forge::where, -2);
    }
}
