/** Promises 2 and 3. */
public final class TextTest {
    public static void main(String[] args) {
        bytesFromTheHighestOn();
        whatIsNoCharacter();
        notMoreThanTwoHundred();
        emptiedAgain();
        Checks.end();
    }

    private static void bytesFromTheHighestOn() {
        AlarmForge forge = new AlarmForge();
        Checks.due("nothing", () -> forge.text(0L), 0);
        Checks.due("one at the low end", () -> forge.text('a'), 1);
        Checks.due("one at the high end", () -> forge.text((long) '=' << 56), 2);
        Checks.due("two with zeros between", () -> forge.text((long) '7' << 40 | (long) ';' << 8), 4);
        Checks.due("the text in its order", forge::parse, 1);
        Checks.due("its run", () -> forge.run(1), 0);
        Checks.due("its value", () -> forge.ran(10), 7);
        Checks.due("eight at once", () -> forge.text(Checks.pack("b=a+a*3;")), 12);
        Checks.due("both", forge::parse, 2);
        forge.run(5);
        Checks.due("value of the second", () -> forge.ran(11), 28);
    }

    private static void whatIsNoCharacter() {
        int[] bad = {1, 9, 11, 13, 31, 127, 128, 200, 255};
        for (int c : bad) {
            AlarmForge forge = Checks.written("a=1;");
            long high = (long) c << 56 | 'b';
            long low = (long) 'b' << 8 | c;
            Checks.due("byte " + c + " highest", () -> forge.text(high), "IllegalArgument");
            Checks.due("byte " + c + " lowest", () -> forge.text(low), "IllegalArgument");
            Checks.due("nothing of it comes", () -> forge.count(0), 4);
        }
        int[] good = {10, 32, 33, 64, 125, 126};
        for (int c : good) {
            Checks.due("byte " + c, () -> new AlarmForge().text(c), 1);
        }
        Checks.due("all ones", () -> new AlarmForge().text(-1L), "IllegalArgument");
    }

    private static void notMoreThanTwoHundred() {
        AlarmForge forge = new AlarmForge();
        for (int i = 0; i < 49; i++) {
            Checks.write(forge, "a=1;");
        }
        Checks.due("five to 196", () -> forge.text(Checks.pack("a=1; ")), "IllegalState");
        Checks.due("eight to 196", () -> forge.text(Checks.pack("        ")), "IllegalState");
        Checks.due("still 196", () -> forge.count(0), 196);
        Checks.due("wrong before too many", () -> forge.text(Checks.pack("a=1;\u0001\u0001\u0001")), "IllegalArgument");
        Checks.due("four to 196", () -> forge.text(Checks.pack("b=1;")), 200);
        Checks.due("one to 200", () -> forge.text(' '), "IllegalState");
        Checks.due("wrong one to 200", () -> forge.text(1), "IllegalArgument");
        Checks.due("none to 200", () -> forge.text(0), 200);
        Checks.due("fifty statements", forge::parse, 50);
        Checks.due("all of them run", () -> forge.run(50), 0);
        Checks.due("the last one too", () -> forge.ran(11), 1);
    }

    private static void emptiedAgain() {
        AlarmForge forge = Checks.parsed("a=in;b=a;");
        Checks.due("clear", forge::clear, 9);
        Checks.due("clear again", forge::clear, 0);
        Checks.due("no characters", () -> forge.count(0), 0);
        Checks.due("what was parsed stays", () -> forge.count(2), 2);
        Checks.due("and runs", () -> forge.run(5), 0);
        Checks.due("a shorter text", () -> forge.text(Checks.pack("a=2;")), 4);
        Checks.due("has no rest of the old one", forge::parse, 1);
    }
}
