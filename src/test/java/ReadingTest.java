/** Promises 3 and 4: the text's grammar, and the FAULTS of reading with their PLACES. */
public final class ReadingTest {
    public static void main(String[] args) {
        blanks();
        pitches();
        lengths();
        chords();
        numbers();
        blocks();
        names();
        uses();
        words();
        leastKind();
        Check.done();
    }

    private static void blanks() {
        Check.same("no ITEMS", Check.good(" \n% c d\n %").count(0), 0);
        Check.same("a remark", Check.good("c%d e\nf% g").count(0), 2);
        Check.same("a remark in a remark", Check.good("c % % d\n e").count(0), 2);
        Check.good(" M 3 / 4 R 2 { c } T\n3 / 2 { d } X -1\n-2 {e} L %\n{f }");
        Check.good("= a\nb c {$ b $ c} $ a { c } {d } [ c / d ] < c e >4 W 1 \" a\nb \"");
        Check.good("M3/4R2{c}T3/2{d}X-1-2{e}L{f}=a b{$b}$a{c}[c/d]<ce>4W1\"a\"");
        Check.faulty("c 4", 1, 2);
        Check.faulty("c4 .", 1, 3);
        Check.faulty("c ~", 1, 2);
        Check.faulty("c: 5", 1, 2);
        Check.faulty("c +", 1, 2);
        Check.faulty("X - 1 2{c}", 1, 3);
        Check.faulty("<c> 4", 1, 4);
        Check.faulty("c%4\n4", 1, 4);
        Check.faulty("c\t", 1, 1);
        Check.faulty("c\r\n", 1, 1);
        Check.faulty("W1\"%\n\" c", 8, 3);
    }

    private static void pitches() {
        Check.good("c++ d-- e+'''' f-,,,, g a b cd");
        Check.faulty("c+++", 1, 3);
        Check.faulty("c---", 1, 3);
        Check.faulty("c+-", 1, 2);
        Check.faulty("c-+", 1, 2);
        Check.faulty("c',", 1, 2);
        Check.faulty("c,'", 1, 2);
        Check.faulty("c'+", 1, 2);
        Check.faulty("c" + Check.times("'", 10), 1, 10);
        Check.faulty("c" + Check.times(",", 10), 1, 10);
        Check.faulty("c" + Check.times("'", 9), 3, 0);
        Check.faulty("h", 1, 0);
        Check.faulty("C", 1, 0);
        Check.faulty("c~~", 1, 2);
        Check.faulty("r~", 1, 1);
        Check.faulty("r'", 1, 1);
        Check.faulty("r+", 1, 1);
    }

    private static void lengths() {
        Check.good("c1 c2 c4 c8 c16 c32 c64 c1... c004 c064. c:1 c:0000000001 r4.. <c>8.");
        int[] wrong = {0, 3, 5, 6, 12, 63, 65, 128, 256, 999};
        for (int n : wrong) {
            Check.faulty("c" + n, 2, 1);
        }
        Check.faulty("c1000", 2, 1);
        Check.faulty("c0004", 2, 1);
        Check.faulty("c4....", 1, 5);
        Check.faulty("c.", 1, 1);
        Check.faulty("c:", 1, 2);
        Check.faulty("c:x", 1, 2);
        Check.faulty("c:0", 2, 2);
        Check.good("c:3870720000");
        Check.faulty("c:3870720001", 2, 2);
        Check.faulty("c:9999999999", 2, 2);
        Check.faulty("c:00000000001", 2, 2);
        Check.faulty("c:5.", 1, 3);
        Check.faulty("c:-5", 1, 2);
        Check.faulty("r" + Check.times("9", 60), 2, 1);
    }

    private static void chords() {
        Check.same("six", Check.good("<cdefga>").event(0, 1), 6);
        Check.faulty("<cdefgab>", 5, 7);
        Check.faulty("<c d e f g a  b", 5, 14);
        Check.faulty("<cdefgax", 1, 7);
        Check.faulty("<cdefga", 1, 7);
        Check.faulty("<>", 1, 1);
        Check.faulty("<", 1, 1);
        Check.faulty("<c", 1, 2);
        Check.faulty("<c4>", 1, 2);
        Check.faulty("<c~>", 1, 2);
        Check.faulty("<r>", 1, 1);
        Check.faulty("<c <", 1, 3);
        Check.faulty(">", 1, 0);
    }

    private static void numbers() {
        Check.good("M 32/32 M 1/1 M 032/002 R 050{} R 0{} T 9/1{} T 1/009{} X 99 -99{} X -0 00{}");
        Check.faulty("M 0/4", 2, 2);
        Check.faulty("M 33/4", 2, 2);
        Check.faulty("M 4/3", 2, 4);
        Check.faulty("M 4/0", 2, 4);
        Check.faulty("M 4/64", 2, 4);
        Check.faulty("M 0004/4", 2, 2);
        Check.faulty("M 4 4", 1, 4);
        Check.faulty("M/4", 1, 1);
        Check.faulty("M 4/", 1, 4);
        Check.faulty("M", 1, 1);
        Check.faulty("R 51{}", 2, 2);
        Check.faulty("R {}", 1, 2);
        Check.faulty("R 5", 1, 3);
        Check.faulty("R 5 c", 1, 4);
        Check.faulty("R -1{}", 1, 2);
        Check.faulty("T 0/2{}", 2, 2);
        Check.faulty("T 2/0{}", 2, 4);
        Check.faulty("T 10/2{}", 2, 2);
        Check.faulty("T 2/10{}", 2, 4);
        Check.faulty("T 2{}", 1, 3);
        Check.faulty("X 100 1{}", 2, 2);
        Check.faulty("X 1 -100{}", 2, 5);
        Check.faulty("X 1{}", 1, 3);
        Check.faulty("X --1 1{}", 1, 3);
        Check.faulty("X +1 1{}", 1, 2);
        Check.faulty("W 0\"\"", 2, 2);
        Check.faulty("W 4\"\"", 2, 2);
    }

    private static void blocks() {
        Check.good(Check.times("L{", 8) + "c" + Check.times("}", 8));
        Check.faulty(Check.times("L{", 9), 5, 17);
        Check.good(Check.times("[", 8) + "c" + Check.times("]", 8));
        Check.faulty(Check.times("[", 9), 5, 8);
        Check.faulty(Check.times("[L{", 4) + "[", 5, 12);
        Check.faulty(Check.times("[L{", 4) + "L {", 5, 14);
        Check.faulty(Check.times("[L{", 4) + "L }", 1, 14);
        Check.good(Check.times("L{", 7) + "L{}[]" + Check.times("}", 7) + "L{}");
        Check.good("=a p{}" + Check.times("L{", 7) + "$a{}" + Check.times("}", 7));
        Check.faulty("=a p{}" + Check.times("L{", 8) + "$a {}", 5, 25);
        Check.faulty("L{c", 1, 3);
        Check.faulty("L", 1, 1);
        Check.faulty("}", 1, 0);
        Check.faulty("]", 1, 0);
        Check.faulty("/", 1, 0);
        Check.faulty("{c}", 1, 0);
        Check.faulty("L{c]", 1, 3);
        Check.faulty("L{c/d}", 1, 3);
        Check.faulty("[c}", 1, 2);
        Check.faulty("[c/", 1, 3);
        Check.faulty("[c", 1, 2);
        Check.faulty("[L{c/d}]", 1, 4);
    }

    private static void names() {
        Check.good("=abcdef ghijkl b c d{} =x{}");
        Check.faulty("=abcdefg{}", 5, 1);
        Check.faulty("=a abcdefg{}", 5, 3);
        Check.faulty("=a b c d e f{}", 5, 11);
        Check.faulty("=a{} =a{}", 4, 6);
        Check.faulty("=a{} =b a{}", 4, 8);
        Check.faulty("=a a{}", 4, 3);
        Check.faulty("=a b c b{}", 4, 7);
        Check.good("=a b{} =b c{}");
        Check.good("=a b{} =c b{} =d{}");
        Check.faulty("=a{L{=b{}}}", 1, 5);
        Check.good("L{=a{}} $a =b p{} $b{=c{}} $c [=d{}/$d]");
        Check.faulty("=", 1, 1);
        Check.faulty("=A{}", 1, 1);
        Check.faulty("=a", 1, 2);
        Check.faulty("=a 1{}", 1, 3);
        Check.faulty("=a b", 1, 4);
        Check.faulty("=a{", 1, 3);
        StringBuilder s = new StringBuilder();
        for (int i = 0; i < 20; i++) {
            s.append('=').append((char) ('a' + i)).append("{}");
        }
        Check.same("20 names", Check.good(s.toString()).count(3), 20);
        Check.faulty(s + " =z{}", 5, 81);
        Check.faulty(s + " =a{}", 5, 81);
    }

    private static void uses() {
        Check.faulty("$a", 4, 1);
        Check.faulty("$a =a{}", 4, 1);
        Check.faulty("=a{$a}", 4, 4);
        Check.faulty("=a b{} $b", 4, 8);
        Check.faulty("=abcdef{} $abcdefg", 4, 11);
        Check.faulty("$ 1", 1, 2);
        Check.faulty("$", 1, 1);
        Check.faulty("=a{} $a{}", 1, 7);
        Check.faulty("=a b{} $a", 1, 9);
        Check.faulty("=a b{} $a c", 1, 10);
        Check.faulty("=a b{} $a{}{}", 1, 11);
        Check.faulty("=a b c{} $a{} d", 1, 14);
        Check.faulty("=a b{$b{}}", 1, 7);
        Check.good("=a b c d e{} $a{}{c} { d}\n{}");
        Check.good("=a{c}=b{$a $a}$b");
        Check.good("=a b{$b} =c b{$a{$b}} $c{c}");
        Check.faulty("=a b{$b} =c d{$a{$b}}", 4, 18);
    }

    private static void words() {
        Check.good("c W 1 \"abcdefghijkl\"");
        Check.faulty("c W 1 \"abcdefghijklm\"", 5, 7);
        Check.faulty("c W 1 \" " + Check.times("x", 50), 5, 8);
        Check.faulty("c W 1 \"abc", 1, 10);
        Check.faulty("c W 1 \"", 1, 7);
        Check.faulty("c W 1 \"a\tb\"", 1, 8);
        Check.faulty("c W 1 \"a\u007fb\"", 1, 8);
        Check.faulty("c W 1 \"a\u0080b\"", 1, 8);
        Check.faulty("c W 1 a", 1, 6);
        Check.faulty("c W \"a\"", 1, 4);
        Check.faulty("c W 1", 1, 5);
        Check.same("a % within", Check.syllable(Check.good("c W 2 % x\n \"%~!\""), 0, 2), "%~!");
        Check.good("W 3\"\"W3\" \n \"");
    }

    private static void leastKind() {
        // a fifth parameter that is KNOWN already, and one that is too long
        Check.faulty("=a b c d e b{}", 4, 11);
        Check.faulty("=a b c d e abcdefg{}", 5, 11);
        StringBuilder s = new StringBuilder();
        for (int i = 0; i < 19; i++) {
            s.append('=').append((char) ('a' + i)).append("{}");
        }
        Check.faulty(s + "=z{=y{}}", 1, 79);
        // the first from the left, though another one is found earlier in performing
        Check.faulty("c''''''''' c5", 2, 12);
        Check.faulty("| c | }", 1, 6);
    }
}
