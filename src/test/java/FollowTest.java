import java.util.List;

/** Promise 5: behind each beginning of a PROGRAM each TOKEN goes on, or is the fault. */
public final class FollowTest {
    private static final String[] TOKENS = {"7", "c", "B", "if", "else", "while", "assert", "in", "+", "-", "*",
        "/", "%", "(", ")", "[", "]", "{", "}", ";", "=", "==", "!=", "<", "<="};
    private static final String STATEMENT = "c B if while assert";
    private static final String FACTOR = "7 c B - (";
    private static final String OPERATOR = "+ - * / %";
    private static final String COMPARE = "== != < <=";

    public static void main(String[] args) {
        assignments();
        stores();
        ifs();
        whiles();
        asserts();
        sums();
        factors();
        Checks.end();
    }

    /** Behind the beginning just these TOKENS go on; a blank keeps it from becoming another TOKEN. */
    private static void follow(String beginning, String... goOn) {
        List<String> right = List.of(String.join(" ", goOn).split(" "));
        for (String token : TOKENS) {
            String text = beginning + " " + token;
            int place = beginning.length() + 1;
            AlarmForge forge = Checks.written(text);
            boolean isProgram = !Checks.answer(forge::parse).equals("IllegalArgument");
            boolean goesOn = isProgram || forge.where() > place;
            Checks.same(text + " goes on", goesOn, right.contains(token));
            if (!goesOn) {
                Checks.same("fault of " + text, forge.where(), place);
            }
        }
        boolean ends = right.contains("end");
        AlarmForge forge = Checks.written(beginning);
        Checks.same(beginning + " is whole", !Checks.answer(forge::parse).equals("IllegalArgument"), ends);
        Checks.same("fault of " + beginning, forge.where(), ends ? -2 : beginning.length());
    }

    private static void assignments() {
        Checks.sentence("PROGRAM = { STATEMENT } STATEMENT = VARIABLE = EXPR ; | VARIABLE = in ; |");
        follow("", STATEMENT, "end");
        follow("a", "=");
        follow("a=", FACTOR, "in");
        follow("a=1", OPERATOR, ";");
        follow("a=1;", STATEMENT, "end");
        follow("a=in", ";");
        follow("a=in;", STATEMENT, "end");
    }

    private static void stores() {
        Checks.sentence("| ARRAY [ EXPR ] = EXPR ; |");
        follow("A", "[");
        follow("A[", FACTOR);
        follow("A[1", OPERATOR, "]");
        follow("A[1]", "=");
        follow("A[1]=", FACTOR);
        follow("A[1]=2", OPERATOR, ";");
        follow("A[1]=2;", STATEMENT, "end");
    }

    private static void conds(String beginning, String behind) {
        follow(beginning, "(");
        follow(beginning + "(", FACTOR);
        follow(beginning + "(1", OPERATOR, COMPARE);
        for (String sign : COMPARE.split(" ")) {
            follow(beginning + "(1" + sign, FACTOR);
            follow(beginning + "(1" + sign + "2", OPERATOR, ")");
            follow(beginning + "(1" + sign + "2)", behind);
        }
    }

    private static void ifs() {
        Checks.sentence("| if ( COND ) BLOCK [ else BLOCK ] |");
        conds("if", "{");
        follow("if(1<2){", STATEMENT, "}");
        follow("if(1<2){a=1;", STATEMENT, "}");
        follow("if(1<2){}", STATEMENT, "else", "end");
        follow("if(1<2){}else", "{");
        follow("if(1<2){}else{", STATEMENT, "}");
        follow("if(1<2){}else{}", STATEMENT, "end");
        follow("if(1<2){if(1<2){}", STATEMENT, "else", "}");
        follow("if(1<2){if(1<2){}else{}", STATEMENT, "}");
        follow("if(1<2){if(1<2){}}", STATEMENT, "else", "end");
    }

    private static void whiles() {
        Checks.sentence("| while ( COND ) BLOCK |");
        conds("while", "{");
        follow("while(1<2){", STATEMENT, "}");
        follow("while(1<2){A[0]=1;", STATEMENT, "}");
        follow("while(1<2){}", STATEMENT, "end");
        follow("while(1<2){while(1<2){}", STATEMENT, "}");
    }

    private static void asserts() {
        Checks.sentence("| assert ( COND ) ; BLOCK = { { STATEMENT } } COND = EXPR ( == | != | < | <= ) EXPR");
        conds("assert", ";");
        follow("assert(1<2);", STATEMENT, "end");
        follow("if(1<2){assert(1<2);", STATEMENT, "}");
    }

    private static void sums() {
        Checks.sentence("EXPR = TERM { ( + | - ) TERM } TERM = FACTOR { ( * | / | % ) FACTOR }");
        for (String sign : OPERATOR.split(" ")) {
            follow("a=1" + sign, FACTOR);
            follow("a=1" + sign + "b", OPERATOR, ";");
            follow("a=(1" + sign + "2", OPERATOR, ")");
            follow("a=B[1" + sign + "2", OPERATOR, "]");
        }
    }

    private static void factors() {
        Checks.sentence("FACTOR = - FACTOR | NUMERAL | VARIABLE | ARRAY [ EXPR ] | ( EXPR )");
        follow("a=-", FACTOR);
        follow("a=-1", OPERATOR, ";");
        follow("a=b", OPERATOR, ";");
        follow("a=B", "[");
        follow("a=B[", FACTOR);
        follow("a=B[1", OPERATOR, "]");
        follow("a=B[1]", OPERATOR, ";");
        follow("a=(", FACTOR);
        follow("a=(1", OPERATOR, ")");
        follow("a=(1)", OPERATOR, ";");
        follow("a=((1)", OPERATOR, ")");
        follow("a=A[(1)", OPERATOR, "]");
    }
}
