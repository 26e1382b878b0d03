/** Promise 3: performing, its limits and its FAULTS. */
public final class PerformingTest {
    private static final String LONGEST = "3870720000";

    public static void main(String[] args) {
        steps();
        lengths();
        tuplets();
        pitches();
        relatives();
        moves();
        eventLimits();
        ties();
        rounds();
        named();
        usesOpen();
        voices();
        meters();
        words();
        order();
        Check.done();
    }

    private static void steps() {
        Check.same("ITEMS", Check.good("| M 4/4 =a{c} L{} W 1\"\" [] X 0 0{} T 1/1{} $a R 0{} r").count(4), 12);
        Check.same("rounds", Check.good("R 3{c}").count(4), 7);
        Check.same("rounds of nothing", Check.good("R 50{}").count(4), 51);
        Check.same("3000", Check.good("R 49{R 29{|}} |" + Check.times("|", 58)).count(4), 49 * 60 + 1 + 59);
        Check.faulty("R 49{R 29{|}} |" + Check.times("|", 59), 5, 73);
        Check.faulty("R 50{R 29{|}}", 5, 10);
        Check.faulty("R 49{R 29{|}} " + Check.times("|", 58) + "R 1{c}", 5, 72);
        Check.faulty("R 49{R 29{|}} " + Check.times("|", 57) + "R 1{c}", 5, 75);
    }

    private static void lengths() {
        OwnText x = Check.good("c d8 e f4. g r2.. <c e>1... d e:7 f");
        Check.same("LENGTHS stay", Check.events(x, 5),
                "967680 483840 483840 1451520 1451520 3386880 7257600 7257600 7 7");
        Check.same("LENGTHS within stay too",
                Check.events(Check.good("L{c8} d R 1{e16} f =a{g32} $a a [b2 / c4 d64] e"), 5),
                "483840 483840 241920 241920 120960 120960 1935360 967680 60480 1935360");
        Check.same("a new VOICE begins as it was ahead",
                Check.events(Check.good("c8 [d2 / e / f1]"), 5),
                "483840 1935360 483840 3870720 1935360");
    }

    private static void tuplets() {
        Check.same("T", Check.events(Check.good("T 3/2{c8 d T 5/4{e} r} f"), 5),
                "322560 322560 258048 322560 483840");
        Check.same("as one fraction", Check.events(Check.good("T 7/1{T 1/7{c:5}}"), 5), "5");
        Check.faulty("T 7/1{c:5}", 2, 6);
        Check.faulty(" T 2/1{r:3}", 2, 7);
        Check.faulty("T 2/1{<c e>:3}", 2, 6);
        Check.good("T 1/2{c:1935360000}");
        Check.faulty("T 1/2{c:1935360001}", 2, 6);
        Check.good("T 2/1{c:" + LONGEST + "}");
        String nine = Check.times("T 1/9{", 8) + "c:90" + Check.times("}", 8);
        Check.same("9 ^ 8", Check.good(nine.replace("90", "89")).event(0, 5), 43046721L * 89);
        Check.faulty(nine, 2, 48);
        Check.faulty(nine.replace(":90", ":" + LONGEST), 2, 48);
        // more than 8 are open by a $ alone
        Check.good("=a{T 1/1{c}} " + Check.times("T 1/1{", 7) + "$a" + Check.times("}", 7));
        Check.faulty("=a{c T 1/1{c}} " + Check.times("T 1/1{", 8) + "$a" + Check.times("}", 8), 5, 5);
        Check.good(Check.times("T 1/1{", 8) + "c" + Check.times("}", 8) + "T 1/1{c}");
        Check.faulty("=a{T 1/1{c}} $a $a " + Check.times("T 1/1{", 8) + "$a" + Check.times("}", 8), 5, 3);
    }

    private static void pitches() {
        Check.form("c d' e,, f+ g++ a- b--'", "c:967680 d':967680 e,,:967680 f+:967680 g++:967680"
                + " a-:967680 b--':967680");
        Check.same("octave 9", Check.good("c'''''").pitch(0, 0, 2), 9);
        Check.same("octave 0", Check.good("c,,,,").pitch(0, 0, 2), 0);
        Check.faulty("c c''''''", 3, 2);
        Check.faulty("c b,,,,,", 3, 2);
        Check.faulty("c <c b,,,,,>", 3, 2);
        Check.same("below c of octave 0", Check.good("c--,,,,").pitch(0, 0, 3), -2);
    }

    private static void relatives() {
        Check.form("L{g1 f f' b,, c}", "g,:3870720 f,:3870720 f:3870720 b,,:3870720 c,:3870720");
        Check.form("L{f1 b e}", "f:3870720 b:3870720 e':3870720");
        Check.form("L{<e>1}", "e:3870720");
        Check.form("L{<a e' d>1 g}", "<a, e d>:3870720 g,:3870720");
        Check.form("L{b1 L{g} a} d", "b,:3870720 g,:3870720 a,:3870720 d:3870720");
        Check.form("L{r1 X 7 12{b} c}", "r:3870720 b:3870720 c:3870720");
        Check.form("=a{g1 d} L{f $a}", "f:967680 g:3870720 d:3870720");
        Check.form("L{g1 [a b / f e] c}",
                "[ g,:3870720 a,:3870720 b,:3870720 c:3870720 / r:3870720 f,:3870720 e,:3870720 ]");
        Check.faulty("L{c''''' c' d}", 3, 9);
        Check.form("L{c,,,,1 d e}", "c,,,,:3870720 d,,,,:3870720 e,,,,:3870720");
    }

    private static void moves() {
        Check.form("X 2 4{c1 d e f+ b'} c", "e:3870720 f+:3870720 g+:3870720 a+:3870720 d+'':3870720 c:3870720");
        Check.form("X -1 -2{c1 f}", "b-,:3870720 e-:3870720");
        Check.form("X 1 1{X 1 1{c1}}", "e--:3870720");
        Check.form("X 1 3{X 0 -1{c1} }", "d:3870720");
        Check.form("=a{c1} X 7 12{$a}", "c':3870720");
        Check.faulty("X 0 3{c}", 3, 6);
        Check.faulty("X 0 -3{<c e>}", 3, 7);
        Check.faulty("X 0 2{<c e++>}", 3, 6);
        Check.faulty("X 1 0{e f b c+ d-- f-}", 3, 15);
        Check.faulty("X 7 12{c''''' }", 3, 7);
        Check.faulty("X -7 -12{b c,,,,}", 3, 11);
        Check.faulty("X 99 99{c}", 3, 8);
        Check.good("X 35 60{c}");
        Check.same("moved back", Check.good("X -7 -12{c''''''}").pitch(0, 0, 2), 9);
    }

    private static void eventLimits() {
        Check.same("300", Check.good("R 50{cdefga}").count(0), 300);
        Check.faulty("R 50{cdefga} | r", 5, 15);
        Check.faulty("R 50{cdefga} c", 5, 13);
        Check.faulty("R 49{cdefga} cdefg [c2 / c1]", 5, 25);
        Check.faulty("R 49{cdefga} cdef [c2 / c1]", 5, 18);
        Check.good("R 49{cdefga} cdef [c2 / c2]");
        Check.faulty("R 49{cdefga} cdefg [c2~ / ]  r", 6, 20);
        Check.good("c:" + LONGEST);
        Check.faulty("c:1 d:" + LONGEST, 5, 4);
        Check.faulty("c:" + LONGEST + " r:1", 5, 13);
        Check.good("[c:" + LONGEST + " / c:" + LONGEST + "]");
    }

    private static void ties() {
        OwnText x = Check.good("c4~ c8~ c d~ [d / c~ c] r <c e>~ <c e>");
        Check.same("tied", Check.events(x, 2), "1 1 0 1 0 1 0 0 0 1 0");
        Check.same("tied to", Check.events(x, 3), "0 1 1 0 1 0 1 0 0 0 1");
        Check.faulty("c~", 6, 0);
        Check.faulty("c~ d", 6, 0);
        Check.faulty("c~ c+", 6, 0);
        Check.faulty("c~ c'", 6, 0);
        Check.faulty("c~ r", 6, 0);
        Check.faulty("d c~ <c e>", 6, 2);
        Check.faulty("<c e>~ <e c>", 6, 0);
        Check.faulty("<c e>~ c", 6, 0);
        Check.faulty("d c~ c~ r", 6, 5);
        Check.good("c~ X 1 1{b,}");
        Check.good("<c>~ c");
        // the pitches count as moved, so that e- is not d+
        Check.faulty("d+~ X 1 1{d}", 6, 0);
        Check.faulty("X 0 1{c~} c", 6, 6);
        // the VOICE ends
        Check.faulty("[c / d~] d", 6, 5);
        Check.faulty("[c~ / d] d", 6, 1);
        Check.good("[c~ / d] c");
        Check.faulty("[c~ / d2] c", 6, 1);
        Check.faulty("c~ [ / d] c", 6, 0);
        Check.good("c~ [ / ] c");
        Check.faulty("c R 2{d~} c", 6, 6);
        Check.faulty("[c / d~ / e''''''''']", 6, 5);
        Check.good("R 3{c~} c");
        // ahead of the next EVENT's own FAULTS 2 and 5, behind 3
        Check.faulty("c~ d:" + LONGEST, 6, 0);
        Check.faulty("c~ T 7/1{d:5}", 6, 0);
        Check.faulty("c~ T 7/1{c:5}", 2, 9);
        Check.faulty("c~ d''''''", 3, 3);
        Check.faulty("R 49{cdefga} cdefgc~ d", 6, 18);
        Check.faulty("R 49{cdefga} cdefgc~ c", 5, 21);
    }

    private static void rounds() {
        Check.same("R 3", Check.good("R 3{c d}").count(0), 6);
        Check.same("R 0", Check.good("R 0{c | d}").count(0), 0);
        Check.same("R in R", Check.good("R 3{c R 2{d}}").count(0), 9);
        Check.form("L{R 2{g1}}", "g,:3870720 g,:3870720");
    }

    private static void named() {
        Check.form("=a{c1} $a $a", "c:3870720 c:3870720");
        Check.form("=a{c1}", "");
        Check.form("=a p q{$q $p $q} $a{c1}{d}", "d:967680 c:3870720 d:3870720");
        // a BLOCK that was given keeps the PARAMETERS of where it was written
        Check.form("=a p{$p} =b p{$a{$p e1}} $b{c1}", "c:3870720 e:3870720");
        Check.form("=a p q{$q} =b p q{$a{$q}{$p}} $b{c1}{d1}", "c:3870720");
        Check.form("=a p{$p f1} =b p{$a{g1 $a{$p}}} =c p{$b{$p}} $c{c1 $a{d1}}",
                "g:3870720 c:3870720 d:3870720 f:3870720 f:3870720 f:3870720");
        // and all else of where it is performed
        Check.form("=a p{X 1 2{L{b1 $p}}} $a{c}", "c+:3870720 d:3870720");
        Check.form("=a p q r s{$s$r$q$p} $a{c1}{d}{e}{f}", "f:967680 e:967680 d:967680 c:3870720");
        Check.form("=a b{$b} =b{d1} $a{$b}", "d:3870720");
    }

    private static void usesOpen() {
        // a's PARAMETER is given on: each turn through a opens two $
        StringBuilder s = new StringBuilder("=a{c}");
        for (char n = 'b'; n <= 't'; n++) {
            s.append('=').append(n).append("{$").append((char) (n - 1)).append('}');
        }
        Check.good(s + " $t");
        String chain = "=a p{$p}=b p{$a{$p}}=c p{$b{$p}}=d p{$c{$p}}=e p{$d{$p}}=f p{$e{$p}}"
                + "=g p{$f{$p}}=h p{$g{$p}}=i p{$h{$p}}=j p{$i{$p}}=k p{$j{$p}}=l p{$k{$p}}";
        // $l opens 12 names and then 12 PARAMETERS
        Check.good(chain + "$l{c}");
        Check.faulty(chain + "=m p{$l{$p}} $m{c}", 5, chain.length() - 4);
        Check.faulty(chain + "=z{c} $l{$z}", 5, chain.length() + 9);
        Check.good(chain + "=z{c} $z $k{$z}");
        Check.faulty(chain + "=z{c} $z $l{$z}", 5, chain.length() + 12);
        // as deep as BLOCKS can be open at once
        StringBuilder deep = new StringBuilder("=a{" + nested("c", 7) + "}");
        for (char n = 'b'; n <= 't'; n++) {
            deep.append('=').append(n).append('{').append(nested("$" + (char) (n - 1), 7)).append('}');
        }
        deep.append(nested("$t", 8));
        Check.same("deep", Check.good(deep.toString()).count(4), 20 + 8 + 20 + 20 * 7 + 1);
    }

    private static String nested(String music, int n) {
        return Check.times("L{", n) + music + Check.times("}", n);
    }

    private static void voices() {
        OwnText x = Check.good("c [d2 / e r1 / f [g / a1 b]] c");
        Check.same("VOICES", Check.events(x, 0), "0 0 1 1 2 2 3 3 2 0 0");
        Check.same("TIMES", Check.events(x, 4), "0 967680 967680 1935360 967680 1935360 1935360"
                + " 5806080 2903040 2903040 9676800");
        Check.same("LENGTHS", Check.events(x, 5), "967680 1935360 967680 3870720 967680 967680 3870720"
                + " 3870720 6773760 6773760 1935360");
        Check.same("no MUSIC more", Check.good("[c]").count(1), 1);
        Check.same("12", Check.good("[" + Check.times("c/", 11) + "c]").count(1), 12);
        Check.faulty("c [" + Check.times("c/", 12) + "c]", 5, 2);
        Check.faulty("c [" + Check.times("c/", 12) + "]", 5, 2);
        Check.faulty("R 12{[c/d]}", 5, 5);
        Check.good("R 11{[c/d]}");
        Check.form("[ / c1 ]", "[ r:3870720 / c:3870720 ]");
        Check.form("[c1/]", "[ c:3870720 /  ]");
        Check.form("c1 [d/]", "[ c:3870720 d:3870720 / r:3870720 ]");
    }

    private static void meters() {
        Check.good("| c1 | c2 c | M 3/4 | c2. | M 6/8 c | M 1/32 c | M 32/1");
        Check.faulty("c |", 7, 2);
        Check.faulty("M 3/4 c1 |", 7, 9);
        Check.faulty("c M 3/4", 7, 2);
        Check.good("M 1/4 c M 3/4");
        Check.faulty("[M 3/4 c]", 7, 1);
        Check.faulty("[c / M 3/4]", 7, 5);
        Check.faulty("=a{M 3/4} [$a]", 7, 3);
        Check.good("=a{M 3/4} [c1] M 1/4 $a");
        Check.faulty("[c | ]", 7, 3);
        Check.good("[c1 | / d2 d | ]");
        Check.same("in place", Check.good("M 3/4 M 2/4 M 5/8").count(5), 1);
        Check.same("the same once more", Check.good("c1 M 4/4 c M 4/4 M 3/4").count(5), 3);
        Check.same("40", Check.good("R 39{c1 M 4/4}").count(5), 40);
        Check.same("40 in place", Check.good("R 39{c1 M 4/4} M 3/4").count(5), 40);
        Check.faulty("R 40{c1 M 4/4}", 5, 8);
        Check.faulty("R 39{c1 M 4/4} c2 M 3/4", 7, 18);
        Check.good("M 3/4 c2. | d | M 2/4 c2 | M 4/4 r1 |");
        Check.faulty("M 3/4 c2. M 4/4 c2. |", 7, 20);
    }

    private static void words() {
        OwnText x = Check.good("c r d~ d e W 1 \"a b\" f W 1\"c d\" W 3 \"_ x\" W 2 \"_\"");
        String[] one = {"a", "", "b", "", "c", "d"};
        String[] three = {"", "", "x", "", "", ""};
        for (int i = 0; i < 6; i++) {
            Check.same("VERSE 1", Check.syllable(x, i, 1), one[i]);
            Check.same("VERSE 2", Check.syllable(x, i, 2), "");
            Check.same("VERSE 3", Check.syllable(x, i, 3), three[i]);
        }
        Check.faulty("c W 1 \"a  b\"", 8, 10);
        Check.faulty("W 1 \"_\"", 8, 5);
        Check.faulty("r W 1 \"a\"", 8, 7);
        Check.faulty("c~ c W 1 \"a b\"", 8, 12);
        Check.faulty("c W 1 \"a\" W 1 \"b\"", 8, 15);
        Check.good("c W 1 \"a\" W 2 \"b\"");
        Check.faulty("c [d / W 1 \"a\"]", 8, 12);
        OwnText y = Check.good("c [d / e W 1 \"x\"] W 1 \"a b\"");
        Check.same("of the VOICE", Check.syllable(y, 0, 1) + Check.syllable(y, 1, 1)
                + Check.syllable(y, 2, 1), "abx");
        OwnText z = Check.good("R 3{c W 1 \"la\"} R 2 {d} W 1 \"__ _x\"");
        Check.same("in rounds", Check.syllable(z, 2, 1) + Check.syllable(z, 3, 1)
                + Check.syllable(z, 4, 1), "la___x");
    }

    private static void order() {
        // of one ITEM 3 ahead of 2 ahead of 5, and the STEP ahead of all
        Check.faulty("T 7/1{c'''''':5}", 3, 6);
        Check.faulty("c:" + LONGEST + " T 7/1{d:5}", 2, 19);
        Check.faulty("R 49{R 29{|}} " + Check.times("|", 58) + "c~d", 5, 74);
        Check.faulty("R 49{R 29{|}} " + Check.times("|", 58) + "c c''''''", 5, 74);
    }
}
