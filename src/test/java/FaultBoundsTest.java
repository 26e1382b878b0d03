import java.util.List;

/**
 * The boundary cases of the FAULTS of reading: names, what is too much, which FAULT is the first. Each
 * method is about one sentence of the document, and tells its words.
 */
public final class FaultBoundsTest {
    public static void main(String[] args) {
        namesNotKnown();
        namesKnownAlready();
        blocksOpen();
        manyNames();
        fifthParameter();
        longNames();
        knownFromWhere();
        parametersWhere();
        noNameInAName();
        asManyBlocks();
        wholeTextFirst();
        firstFromTheLeft();
        leastKind();
        Check.done();
    }

    /** This many named MUSICS, each of four bytes, by other letters. */
    private static String named(int n) {
        StringBuilder s = new StringBuilder();
        for (int k = 0; k < n; k++) {
            s.append('=').append((char) ('a' + k)).append("{}");
        }
        return s.toString();
    }

    private static String open(int n) {
        return Check.times("L{", n);
    }

    private static String close(int n) {
        return Check.times("}", n);
    }

    private static void namesNotKnown() {
        Check.sentence("4 a NAME, at its first letter: behind $ one that is not KNOWN");
        Check.faulty("$a", 4, 1);
        Check.faulty("c $ \n abc", 4, 6);
        Check.faulty("=a{} $b{", 4, 6);
        Check.faulty("=abc{} $ab", 4, 8);
        Check.faulty("=abc{} $abcd", 4, 8);
        Check.faulty("=abc{} $abd", 4, 8);
        Check.faulty("=abcdef{} $abcdeg", 4, 11);
    }

    private static void namesKnownAlready() {
        Check.sentence("behind = one that is KNOWN, or stands there already");
        Check.faulty("=a{} =a{}", 4, 6);
        Check.faulty("=a{} =\n a p{}", 4, 8);
        Check.faulty("=a{} =b a{}", 4, 8);
        Check.faulty("=a{} =b p q r a{}", 4, 14);
        Check.faulty("=a a{}", 4, 3);
        Check.faulty("=a p p{}", 4, 5);
        Check.faulty("=a p q r p{}", 4, 9);
        Check.faulty("=a p q r a{}", 4, 9);
        Check.faulty("=abcdef p abcdef{}", 4, 10);
        Check.good("=a{} =ab aa b{} =abc{}");
    }

    private static void blocksOpen() {
        Check.sentence("5 too much: the ninth BLOCK or [ that would be open at once, at its { or [");
        for (String head : List.of("L", "R 1", "T 1/1", "X 0 0", "=a", "=a p q r s")) {
            int place = 14 + head.length();
            Check.good(open(7) + head + "{c}" + close(7));
            Check.good(open(7) + head + "{c}L{c}" + close(7) + "L{c}");
            Check.faulty(open(7) + head + "{L{c}}" + close(7), 5, place + 2);
            Check.faulty(open(8) + head + " \n{", 5, place + 4);
        }
        String uses = "=y{}=z p q{}";
        Check.good(uses + open(8) + "$y" + close(8));
        Check.good(uses + open(7) + "$z{c}{d}" + close(7));
        Check.faulty(uses + open(8) + "$z {", 5, 31);
        Check.faulty(uses + open(7) + "$z{} {L{", 5, 33);
        Check.good(open(7) + "[c/d/e]" + close(7));
        Check.faulty(open(8) + "c [", 5, 18);
        Check.faulty(open(7) + "[[", 5, 15);
        Check.faulty(open(7) + "[c/L {", 5, 19);
        Check.good(Check.times("[", 8) + "c" + Check.times("]", 8));
        Check.faulty(Check.times("[", 9), 5, 8);
        Check.good(Check.times("[]L{}", 30));
    }

    private static void manyNames() {
        Check.sentence("the 21st = of a text, at it");
        Check.same("20", Check.good(named(20)).count(3), 20);
        Check.faulty(named(20) + " =z{}", 5, 81);
        Check.faulty(named(20) + "=", 5, 80);
        Check.faulty(named(20) + "R 0{L{=z{}}}", 5, 86);
        Check.holds("R 3{" + named(20) + "$a c}", 3);
    }

    private static void fifthParameter() {
        Check.sentence("a fifth parameter, at its first letter");
        Check.holds("=a p q r s{$s} $a{}{}{}{c}", 1);
        Check.faulty("=a p q r s t{}", 5, 11);
        Check.faulty("=a p q r s \n tuv", 5, 13);
        Check.faulty("=a p q r s 1", 1, 11);
    }

    private static void longNames() {
        Check.sentence("behind = a NAME of more than 6 letters (behind $ it is not KNOWN)");
        Check.good("=abcdef{}");
        Check.faulty("=abcdefg{}", 5, 1);
        Check.faulty("= \nabcdefg", 5, 3);
        Check.faulty("=" + Check.times("a", 1000), 5, 1);
        Check.good("=a abcdef bcdefg cdefgh defghi{}");
        Check.faulty("=a abcdefg{}", 5, 3);
        Check.faulty("=a p q r abcdefg{}", 5, 9);
        Check.faulty("=abcdef{} $abcdefg", 4, 11);
        Check.faulty("$" + Check.times("a", 1000), 4, 1);
        Check.faulty("=a bcdefg{$bcdefgh}", 4, 11);
    }

    private static void knownFromWhere() {
        Check.sentence("The first one is KNOWN from behind that BLOCK on to the end of the text");
        Check.faulty("$a =a{c}", 4, 1);
        Check.faulty("=a{c $a}", 4, 6);
        Check.faulty("=a p{$p $a{}}", 4, 9);
        Check.holds("=a{c}$a", 1);
        Check.holds("L{[R 0{=a{c}}]} $a", 1);
        Check.holds("[=a{c} / $a]", 2);
        Check.holds("=b p{$p} $b{=a{c} $a} $a", 2);
        Check.holds("=a{c} =b p{$a $p} $b{$a}", 2);
        Check.holds("=a{c}" + Check.times(" ", 1493) + "$a", 1);
        Check.faulty("R 0{=a{c}} =a{c}", 4, 12);
    }

    private static void parametersWhere() {
        Check.sentence("PARAMETERS in that BLOCK alone (they may come again later)");
        Check.holds("=a p{L{R 1{$p}}} $a{c}", 1);
        Check.faulty("=a p{} $p", 4, 8);
        Check.faulty("=a p{} $a{$p}", 4, 11);
        Check.faulty("=a p{} =b q{$p}", 4, 13);
        Check.holds("=a p q{$p $q} =b q p{$p $q} $b{c}{d}", 2);
        Check.holds("=a p{$p} =p{c} $p $a{d}", 2);
        Check.holds("=a p{$p} =p px{} $p{d} $a{c}", 1);
        Check.faulty("=a p{$p} =p{c} =b p{}", 4, 18);
    }

    private static void noNameInAName() {
        Check.sentence("No = may stand in the BLOCK of another one (KIND 1)");
        Check.faulty("=a{=b{}}", 1, 3);
        Check.faulty("=a{c L{[d / =b{}]}}", 1, 12);
        Check.faulty("=z p{} =a{$z{=b{}}}", 1, 13);
        Check.good("=a{} =b{} L{=c{}} =z p{} $z{=d{}}");
    }

    private static void asManyBlocks() {
        Check.sentence("Behind $ and a NAME there are as many BLOCKS as it has PARAMETERS (behind a PARAMETER's none);"
                + " another number is a FAULT of KIND 1 (a { too many, too)");
        String[] parameters = {"", " p", " p q", " p q r", " p q r s"};
        for (int n = 0; n <= 4; n++) {
            String head = "=a" + parameters[n] + "{c} $a";
            Check.holds(head + Check.times("{}", n), 1);
            Check.holds(head + Check.times(" \n{d}", n) + " e", 2);
            Check.faulty(head + Check.times("{}", n) + " {}", 1, head.length() + 2 * n + 1);
            if (n > 0) {
                Check.faulty(head + Check.times("{}", n - 1), 1, head.length() + 2 * n - 2);
                Check.faulty(head + Check.times("{}", n - 1) + "  c", 1, head.length() + 2 * n);
                Check.faulty("L{" + head + Check.times("{}", n - 1) + "}", 1, head.length() + 2 * n);
            }
        }
        Check.holds("=a p{$p d} $a{c}", 2);
        Check.faulty("=a p{$p{}}", 1, 7);
        Check.faulty("=a p{$p {c}}", 1, 8);
    }

    private static void wholeTextFirst() {
        Check.sentence("First the whole text is read");
        Check.faulty("c | c'''''' c~ d }", 1, 17);
        Check.faulty("R 50{R 50{R 50{c}}} M 0/4", 2, 22);
        Check.faulty("W 1 \"a\" $b", 4, 9);
        Check.faulty("c | abcdefgh", 1, 11);
        Check.faulty("c | " + named(21), 5, 84);
    }

    private static void firstFromTheLeft() {
        Check.sentence("the FAULT is the first from the left");
        Check.faulty("$a =abcdefg{} c3 }", 4, 1);
        Check.faulty("=abcdefg{} $a c3 }", 5, 1);
        Check.faulty("c3 =abcdefg{} $a }", 2, 1);
        Check.faulty("} c3 =abcdefg{} $a", 1, 0);
        Check.faulty("W 1\"abcdefghijklm\t", 5, 4);
        Check.faulty("c0000000\t", 2, 1);
        Check.faulty("R 51", 2, 2);
        Check.faulty("X 100 }", 2, 2);
        Check.faulty("T 0/0}", 2, 2);
        Check.faulty("$abcdefgh{{{", 4, 1);
    }

    private static void leastKind() {
        Check.sentence("of one PLACE the least KIND");
        // 1 ahead of 5: the = stands in a BLOCK of another one, and is the 21st
        Check.faulty(named(19) + "=z{=y{}}", 1, 79);
        // the { or [ would be the ninth, and cannot stand there
        Check.faulty("=a{}" + open(8) + "$a {", 1, 23);
        Check.faulty(open(8) + "{", 1, 16);
        Check.faulty(open(8) + "L[", 1, 17);
        Check.faulty(open(8) + "R [", 1, 18);
        Check.faulty("=a p{" + open(7) + "$p{", 1, 21);
        // 4 ahead of 5: a fifth parameter that is KNOWN, or stands there already
        Check.faulty("=b{} =a p q r s b{}", 4, 16);
        Check.faulty("=a p q r s a{}", 4, 11);
        Check.faulty("=a p q r s s{}", 4, 11);
        // both are 5
        Check.faulty("=a p q r s abcdefg{}", 5, 11);
    }
}
