/** Boundary cases of What it is, THE TEXT, TOKENS and promises 1 to 3, a sentence at a time. */
public final class TextEdgesTest {
    private static final String LETTERS = "abcdefghijklmnopqrstuvwxyzABCDEFGHIJKLMNOPQRSTUVWXYZ";

    public static void main(String[] args) {
        fiveHundredAndTwelveCalls();
        twoHundredCharacters();
        whichCharacters();
        blanks();
        numerals();
        variables();
        arrays();
        words();
        signs();
        longerSigns();
        newObject();
        bytesOfText();
        refusedBytes();
        tooManyCharacters();
        clear();
        Checks.end();
    }

    private static void fiveHundredAndTwelveCalls() {
        Checks.sentence("An object is used for at most 512 calls after it has been made");
        String deep = "a=0;while(a<2){b=0;while(b<2){c=0;while(c<2){c=c+1/c;}b=b+1;}a=a+A[b];}";
        AlarmForge dear = Checks.parsed(deep);
        int behind = (deep.length() + 7) / 8 + 1;
        int due = Checks.parsed(deep).analyse();
        for (int n = behind + 1; n <= 512; n++) {
            Checks.due("call " + n + ": analyse", dear::analyse, due);
        }
        AlarmForge mixed = new AlarmForge();
        for (int n = 1; n <= 512; n += 8) {
            Checks.due("call " + n + ": clear", mixed::clear, n == 1 ? 0 : 5);
            Checks.due("call " + (n + 1) + ": text", () -> mixed.text(Checks.pack("a=in;")), 5);
            Checks.due("call " + (n + 2) + ": parse", mixed::parse, 1);
            Checks.due("call " + (n + 3) + ": forget", mixed::forget, n == 1 ? 0 : 1);
            int v = n;
            Checks.due("call " + (n + 4) + ": input", () -> mixed.input(v), 1);
            Checks.due("call " + (n + 5) + ": run", () -> mixed.run(1), 0);
            Checks.due("call " + (n + 6) + ": refused", () -> mixed.run(501), "IllegalArgument");
            Checks.due("call " + (n + 7) + ": ran", () -> mixed.ran(10), n);
        }
    }

    private static void twoHundredCharacters() {
        Checks.sentence("THE TEXT is a row of at most 200 characters");
        AlarmForge single = new AlarmForge();
        for (int n = 1; n <= 200; n++) {
            Checks.due("one more", () -> single.text(';'), n);
        }
        Checks.due("a 201st", () -> single.text(';'), "IllegalState");
        AlarmForge eights = new AlarmForge();
        for (int n = 8; n <= 200; n += 8) {
            Checks.due("eight more", () -> eights.text(Checks.pack("a=1;b=2;")), n);
        }
        Checks.due("all of them are parsed", eights::parse, 50);
    }

    private static void whichCharacters() {
        Checks.sentence("(10, 32 to 126)");
        for (int c = 1; c <= 255; c++) {
            boolean fits = c == 10 || c >= 32 && c <= 126;
            for (int shift = 0; shift < 64; shift += 8) {
                long w = (long) c << shift;
                String due = fits ? "1" : "IllegalArgument";
                Checks.due("byte " + c + " at " + shift, () -> new AlarmForge().text(w), due);
            }
        }
    }

    private static void blanks() {
        Checks.sentence("Blanks and 10 between TOKENS do not matter.");
        Checks.parses("", "0");
        Checks.parses(" ", "0");
        Checks.parses("\n", "0");
        Checks.parses(" \n".repeat(100), "0");
        String[] tokens = {"if", "(", "A", "[", "0", "]", "<=", "-", "12", "%", "5", ")", "{", "a", "=", "in", ";",
            "}", "else", "{", "assert", "(", "1", "!=", "2", ")", ";", "}"};
        Checks.parses(String.join("", tokens), "3");
        Checks.parses(String.join(" ", tokens), "3");
        Checks.parses("\n\n" + String.join("\n", tokens) + "\n", "3");
        Checks.parses(" \n " + String.join("\n \n", tokens) + "  ", "3");
        Checks.runsAsMarked(" \n a =\n ^1b ;");
        Checks.runsAsMarked("\n\n  ^5assert ( 2\n<\n1 ) ;  ");
        Checks.faultAtMark("if(1^= =1){}");
        Checks.faultAtMark("a=1 ^2;");
        Checks.faultAtMark("a=1\n^2;");
        Checks.faultAtMark("a=^i n;");
        Checks.faultAtMark("^w hile(1<2){}");
    }

    private static void numerals() {
        Checks.sentence("a NUMERAL, one to nine digits");
        for (int digits = 1; digits <= 9; digits++) {
            AlarmForge forge = Checks.parsed("a=" + "987654321".substring(0, digits) + ";");
            Checks.due("its run", () -> forge.run(1), 0);
            Checks.due("its value", () -> forge.ran(10), Integer.parseInt("987654321".substring(0, digits)));
        }
        for (char digit = '0'; digit <= '9'; digit++) {
            Checks.runsAsMarked("assert(" + String.valueOf(digit).repeat(9) + "==" + digit + "*111111111);");
        }
        Checks.runsAsMarked("assert(000000000==0);assert(000000012==12);");
        Checks.runsAsMarked("assert(999999999==1000*1000*1000-1);");
        Checks.leaves("a=999999999;", "a", "999999999..999999999 0 999999999");
        Checks.faultAtMark("a=123456789^0;");
        Checks.faultAtMark("a=000000000^0;");
        Checks.faultAtMark("A[999999999^9999999999]=1;");
    }

    private static void variables() {
        Checks.sentence("a VARIABLE, one letter a to f");
        for (char c = 'a'; c <= 'f'; c++) {
            int k = c - 'a';
            AlarmForge forge = Checks.parsed(c + "=" + (k + 1) + ";");
            forge.run(1);
            for (int v = 0; v < 6; v++) {
                int n = v;
                Checks.due(c + " set, variable " + n, () -> forge.ran(10 + n), n == k ? k + 1 : 0);
            }
        }
        Checks.faultAtMark("^g=1;");
        Checks.faultAtMark("a=^g;");
        Checks.faultAtMark("^`=1;");
        Checks.faultAtMark("^F=1;");
        Checks.faultAtMark("^z=1;");
    }

    private static void arrays() {
        Checks.sentence("an ARRAY, A or B, with 4 CELLS");
        for (char array = 'A'; array <= 'B'; array++) {
            for (int cell = 0; cell < 4; cell++) {
                AlarmForge forge = Checks.parsed(array + "[" + cell + "]=7;a=" + array + "[" + cell + "];");
                int k = (array - 'A') * 4 + cell;
                forge.run(2);
                Checks.due("read again", () -> forge.ran(10), 7);
                for (int c = 0; c < 8; c++) {
                    int n = c;
                    Checks.due(array + " " + cell + " set, cell " + n, () -> forge.ran(20 + n), n == k ? 7 : 0);
                }
            }
            Checks.runsAsMarked("^2" + array + "[4]=1;");
            Checks.runsAsMarked("^2" + array + "[-1]=1;");
            Checks.runsAsMarked("a=^2" + array + "[4];");
            Checks.runsAsMarked("a=^2" + array + "[-1];");
            Checks.warnsAsMarked(array + "[3]=1;a=" + array + "[0];^2" + array + "[4]=1;");
        }
        Checks.faultAtMark("^C[0]=1;");
        Checks.faultAtMark("^@[0]=1;");
        Checks.faultAtMark("a=^C[0];");
    }

    private static void words() {
        Checks.sentence("the words if, else, while, assert, in");
        Checks.parses("if(1<2){}else{while(2<1){assert(1<2);a=in;}}", "4");
        Checks.parses("if (1<2){}else {while (2<1){assert (1<2);a= in ;}}", "4");
        for (String word : new String[] {"if", "else", "while", "assert", "in"}) {
            Checks.faultAtMark("a=1+^" + word + ";");
            Checks.faultAtMark("a=1;^" + word.toUpperCase() + "(1<2);");
        }
        Checks.sentence("letters that follow each other are one word");
        for (int i = 0; i < LETTERS.length(); i++) {
            Checks.faultAtMark("^a" + LETTERS.charAt(i) + "=1;");
            Checks.faultAtMark("b=1;^A" + LETTERS.charAt(i) + "[0]=1;");
        }
        Checks.faultAtMark("^" + "a".repeat(200));
        Checks.faultAtMark(" ".repeat(199) + "a^");
        Checks.faultAtMark("a=^ina;");
        Checks.faultAtMark("a=^inin;");
        Checks.faultAtMark("^ifa<1){}");
        Checks.faultAtMark("if(1<2){}^elseif(1<2){}");
        Checks.faultAtMark("if(1<2){}^elsea=1;");
        Checks.faultAtMark("a=in^1;");
        Checks.faultAtMark("a=1^b;");
        Checks.sentence("another word than these, or one letter of VARIABLES and ARRAYS, is no TOKEN");
        for (int i = 0; i < LETTERS.length(); i++) {
            char c = LETTERS.charAt(i);
            String due = c >= 'a' && c <= 'f' ? "1" : c == 'A' || c == 'B' ? "at 3" : "at 2";
            Checks.parses("a=" + c + ";", due);
        }
        // It does not count as what was before it once more.
        Checks.faultAtMark("a=-^g1;");
        Checks.faultAtMark("a=(^C1));");
        Checks.faultAtMark("a=1;a ^z=1;");
        Checks.faultAtMark("if(1<^x2){}");
        String[] others = {"If", "IF", "i", "ifs", "els", "elsee", "ELSE", "While", "whil", "asser", "asserts",
            "I", "n", "iN", "aa", "AB", "AA", "int", "while"};
        for (String word : others) {
            Checks.parses("a=" + word + ";", "at 2");
            Checks.parses(word + "=1;", word.equals("while") ? "at 5" : "at 0");
        }
    }

    private static void signs() {
        Checks.sentence("and + - * / % ( ) [ ] { } ; = == != < <=");
        for (char c = 33; c <= 126; c++) {
            String sign = String.valueOf(c);
            boolean digit = c >= '0' && c <= '9';
            boolean letter = LETTERS.indexOf(c) >= 0;
            if (!digit && !letter) {
                Checks.parses("a=1" + sign + "2;", "+-*/%".contains(sign) ? "1" : c == ';' ? "at 4" : "at 3");
                Checks.parses("a" + sign + "1;", c == '=' ? "1" : "at 1");
                Checks.parses("if(1" + sign + "2){}", c == '<' ? "1" : "+-*/%".contains(sign) ? "at 6" : "at 4");
                Checks.parses("if(1" + sign + "=2){}",
                    "=!<".contains(sign) ? "1" : "+-*/%".contains(sign) ? "at 5" : "at 4");
                Checks.parses("a=1;" + sign, "at 4");
            }
        }
    }

    private static void longerSigns() {
        Checks.sentence("(the longer one where it can be)");
        Checks.faultAtMark("a^==1;");
        Checks.faultAtMark("a^===1;");
        Checks.parses("if(1==1){}", "1");
        Checks.faultAtMark("if(1==^=1){}");
        Checks.faultAtMark("if(1==^==1){}");
        Checks.parses("if(1!=1){}", "1");
        Checks.faultAtMark("if(1!=^=1){}");
        Checks.faultAtMark("if(1^!1){}");
        Checks.faultAtMark("if(1^! =1){}");
        Checks.parses("if(1<=1){}", "1");
        Checks.faultAtMark("if(1<=^=1){}");
        Checks.faultAtMark("if(1< ^=1){}");
        Checks.faultAtMark("if(1<^<1){}");
        Checks.faultAtMark("if(1^=<1){}");
        Checks.parses("if(1<-1){}", "1");
        Checks.faultAtMark("if(1<^");
        Checks.faultAtMark("if(1<=^");
        Checks.faultAtMark("if(1^!");
        Checks.faultAtMark("if(1^=");
        Checks.faultAtMark("a=^");
        Checks.runsAsMarked("assert(1<=1);");
        Checks.runsAsMarked("^5assert(1<1);");
        Checks.runsAsMarked("^5assert(1!=1);");
    }

    private static void newObject() {
        Checks.sentence("An empty TEXT; UNROLL 1, NARROW 1; nothing is parsed.");
        Checks.due("characters", () -> new AlarmForge().count(0), 0);
        Checks.due("cleared", () -> new AlarmForge().clear(), 0);
        Checks.due("unroll", () -> new AlarmForge().count(5), 1);
        Checks.due("unroll chosen", () -> new AlarmForge().choose(0, 3), 1);
        Checks.due("narrow", () -> new AlarmForge().count(6), 1);
        Checks.due("narrow chosen", () -> new AlarmForge().choose(1, 3), 1);
        Checks.due("statements", () -> new AlarmForge().count(2), 0);
        Checks.due("its empty text is a program", () -> new AlarmForge().parse(), 0);
        Checks.refused("run", AlarmForge::new, x -> x.run(500), "IllegalState");
        Checks.refused("analyse", AlarmForge::new, AlarmForge::analyse, "IllegalState");
    }

    private static void bytesOfText() {
        Checks.sentence("The characters in the bytes of w, the highest first, zeros left out, come to the"
            + " TEXT: how many it has.");
        AlarmForge forge = new AlarmForge();
        Checks.due("none", () -> forge.text(0), 0);
        Checks.due("eight", () -> forge.text(Checks.pack("a=1;b=2;")), 8);
        Checks.due("none to eight", () -> forge.text(0), 8);
        Checks.due("the lowest alone", () -> forge.text('c'), 9);
        Checks.due("the highest alone", () -> forge.text((long) '=' << 56), 10);
        Checks.due("both ends", () -> forge.text((long) '3' << 56 | ';'), 12);
        Checks.due("every second", () -> forge.text(0x64003D0034003B00L), 16);
        Checks.due("every other second", () -> forge.text(0x0065003D0035003BL), 20);
        Checks.due("parsed in that order", forge::parse, 5);
        Checks.due("run", () -> forge.run(5), 0);
        for (int k = 0; k < 5; k++) {
            int n = k;
            Checks.due("variable " + n, () -> forge.ran(10 + n), n + 1);
        }
    }

    private static void refusedBytes() {
        Checks.sentence("IllegalArgumentException if another byte is not as said");
        int[] bad = {1, 9, 11, 31, 127, 128, 255};
        for (int c : bad) {
            for (int shift = 0; shift < 64; shift += 8) {
                long w = 0x613D393B623D393BL & ~(255L << shift) | (long) c << shift;
                Checks.refused("byte " + c + " at " + shift, TextEdgesTest::busy, x -> x.text(w), "IllegalArgument");
            }
        }
        Checks.refused("text of ones alone", TextEdgesTest::busy, x -> x.text(-1), "IllegalArgument");
        Checks.refused("the least text", TextEdgesTest::busy, x -> x.text(Long.MIN_VALUE), "IllegalArgument");
        Checks.refused("a wrong byte and too many", TextEdgesTest::full, x -> x.text('a' << 8 | 1), "IllegalArgument");
    }

    private static void tooManyCharacters() {
        Checks.sentence("IllegalStateException if there would be more than 200; nothing changes then.");
        Checks.refused("one to 200", TextEdgesTest::full, x -> x.text(';'), "IllegalState");
        Checks.refused("a blank to 200", TextEdgesTest::full, x -> x.text(' '), "IllegalState");
        Checks.refused("eight to 200", TextEdgesTest::full, x -> x.text(Checks.pack("a=1;b=1;")), "IllegalState");
        Checks.due("none to 200", () -> full().text(0), 200);
        for (int has = 193; has <= 199; has++) {
            String row = "a=1;".repeat(50).substring(0, has);
            int room = 200 - has;
            String fits = "        ".substring(0, room);
            Checks.Maker maker = () -> Checks.written(row);
            Checks.refused(room + 1 + " to " + has, maker, x -> x.text(Checks.pack(fits + ' ')), "IllegalState");
            Checks.refused("eight to " + has, maker, x -> x.text(Checks.pack("        ")), "IllegalState");
            Checks.due(room + " to " + has, () -> maker.make().text(Checks.pack(fits)), 200);
            long high = Checks.pack(fits) << 8 * (8 - room);
            Checks.due(room + " and zeros to " + has, () -> maker.make().text(high), 200);
        }
        Checks.due("eight to 192", () -> Checks.written(" ".repeat(192)).text(Checks.pack("        ")), 200);
    }

    private static void clear() {
        Checks.sentence("The TEXT is empty: how many characters it had.");
        AlarmForge forge = full();
        Checks.due("200", forge::clear, 200);
        Checks.due("none", forge::clear, 0);
        Checks.due("counted", () -> forge.count(0), 0);
        Checks.due("one", () -> forge.text('\n'), 1);
        Checks.due("one had", forge::clear, 1);
        for (int n = 8; n <= 200; n += 8) {
            Checks.due("room for all again", () -> forge.text(Checks.pack("c=3;    ")), n);
        }
        Checks.due("of which nothing is old", forge::parse, 25);
        forge.clear();
        Checks.due("an empty program", forge::parse, 0);
    }

    /** An object with a text, a program, inputs, a run and a going through. */
    private static AlarmForge busy() {
        AlarmForge forge = Checks.parsed("a=in;b=a/2;");
        forge.choose(0, 2);
        forge.choose(1, 3);
        forge.input(9);
        forge.run(1);
        forge.analyse();
        Checks.write(forge, "c=b;");
        return forge;
    }

    private static AlarmForge full() {
        return Checks.parsed("a=1;".repeat(50));
    }
}
