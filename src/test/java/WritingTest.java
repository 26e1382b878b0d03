/** Promises 12 and 13: write, printed. */
public final class WritingTest {
    public static void main(String[] args) {
        forms();
        verses();
        printedLast();
        longest();
        again();
        Check.done();
    }

    private static void forms() {
        Check.form("", "");
        Check.form("c", "c:967680");
        Check.form("r:12 <c>:5 <c e+'>", "r:12 c:5 <c e+'>:5");
        Check.form("a+''8 b--,,,, c,4~ c, d'''''", "a+'':483840 b--,,,,:483840 c,:967680~ c,:967680"
                + " d''''':967680");
        Check.form("<c,, e g''>1~ <c,, e g''>", "<c,, e g''>:3870720~ <c,, e g''>:3870720");
        Check.form("[c/d]", "[ c:967680 / d:967680 ]");
        Check.form("[/]", "[  /  ]");
        Check.form("[[[/]/]/c]", "[ r:967680 /  /  / c:967680 ]");
        Check.form("c [d/e/r2 [f/]] g", "[ c:967680 d:967680 r:2903040 g:967680 / r:967680 e:967680"
                + " / r:967680 r:1935360 f:1935360 / r:2903040 ]");
        Check.form("c:3870720000", "c:3870720000");
        Check.form("M 3/4 c2. | =a{d} R 2{$a}", "c:2903040 d:2903040 d:2903040");
    }

    private static void verses() {
        Check.form("c d W 1 \"do re\"", "c:967680 d:967680 W 1 \"do re\"");
        Check.form("c d e W 1 \"do _ _\"", "c:967680 d:967680 e:967680 W 1 \"do\"");
        Check.form("c d e W 1 \"_ _ mi\"", "c:967680 d:967680 e:967680 W 1 \"_ _ mi\"");
        Check.form("c d W 1 \"_ _\"", "c:967680 d:967680");
        Check.form("c:9~ c r d W 3 \"a b\" W 1 \"__\"", "c:9~ c:9 r:9 d:9 W 1 \"__\" W 3 \"a b\"");
        Check.form("[c:9 W 2 \"x\" / r:9 / d:9 W 1 \"y\"]",
                "[ c:9 W 2 \"x\" / r:9 / d:9 W 1 \"y\" ]");
        Check.form("c:9 [d / e] W 2 \"x y\"", "[ c:9 d:9 W 2 \"x y\" / r:9 e:9 ]");
    }

    private static void printedLast() {
        OwnText x = Check.good("c:1");
        Check.same("before", x.printed(0), OwnText.NONE);
        Check.same("write", x.write(), 3);
        Check.same("printed", Check.printedText(x), "c:1");
        Check.same("-1", x.printed(-1), OwnText.NONE);
        Check.same("3", x.printed(3), OwnText.NONE);
        Check.same("most", x.printed(Integer.MAX_VALUE), OwnText.NONE);
        Check.same("least", x.printed(Integer.MIN_VALUE), OwnText.NONE);
        Check.read(x, "d:2 e");
        Check.same("what was printed last", Check.printedText(x), "c:1");
        Check.same("write", x.write(), 7);
        Check.same("printed", Check.printedText(x), "d:2 e:2");
        Check.read(x, "");
        Check.same("nothing", x.write(), 0);
        Check.same("printed nothing", x.printed(0), OwnText.NONE);
    }

    /** As many bytes as can be: 300 CHORDS, 900 SYLLABLES. */
    private static void longest() {
        String chord = "<c++''''' c++''''' c++''''' c++''''' c++''''' c++'''''>:12902400";
        String words = "W 1 \"abcdefghijkl\" W 2 \"abcdefghijkl\" W 3 \"abcdefghijkl\"";
        OwnText x = Check.good("R 50{R 6{" + chord + words + "}}");
        int size = 300 * (chord.length() + 1) + 3 * ("W 1 \"\" ".length() + 300 * 13 - 1) - 1;
        Check.same("size", x.write(), size);
        String form = Check.printedText(x);
        Check.same("begins", form.startsWith(chord + " " + chord) ? 1 : 0, 1);
        Check.same("ends", form.endsWith(" abcdefghijkl abcdefghijkl\"") ? 1 : 0, 1);
        Check.same("once more", x.write(), size);
    }

    /** The normal form of a normal form is the same. */
    private static void again() {
        String[] texts = {"c d~ [d / L{g <a c e>8 f}] W 1 \"a b\"", "T 3/2{c8 d e} [f1 / g [a / b2.]]",
            "[ / r8 c~ c W 2 \"x\"] X 1 2 {d} W 3 \"y\"",
            "=a p{c1 $p} c [d / $a{e~ e} W 1 \"o _\"]"};
        for (String text : texts) {
            String form = Check.normalForm(Check.good(text));
            Check.form(form, form);
        }
    }
}
