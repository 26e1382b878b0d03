import java.util.List;

/**
 * The boundary cases of "2 PERFORMING", the second half: rounds, named MUSIC, VOICES, METERS, words.
 * Each method is about one sentence of the document, and tells its words.
 */
public final class MusicBoundsTest {
    private static final String MOST = "3870720000";

    public static void main(String[] args) {
        rounds();
        namingDoesNothing();
        whatAParameterStandsFor();
        usesOpen();
        deepest();
        firstMusic();
        voicesBegin();
        manyVoices();
        voicesEnd();
        behindVoices();
        fillingRests();
        textEnds();
        firstMeter();
        meterInPlace();
        meterRefused();
        manyMeters();
        barLines();
        syllablesGo();
        bareSyllables();
        noEventForASyllable();
        Check.done();
    }

    private static void rounds() {
        Check.sentence("R n: n rounds of it");
        for (int n = 0; n <= 50; n++) {
            Check.holds("R " + n + "{c}", n);
        }
        Check.holds("R 0{c'''''' | W 1 \"a\" T 7/1{r:1}}", 0);
        Check.holds("R 5{R 5{R 5{c}}}", 125);
        Check.holds("=a{R 3{c}} R 2{$a}", 6);
    }

    private static void namingDoesNothing() {
        Check.sentence("= does nothing");
        OwnText x = Check.good("L{f:1 =a{c''' d8 T 7/1{r:1} | W 1\"a\" [c/d]} b} c");
        Check.same("form", Check.normalForm(x), "f:1 b:1 c:1");
        Check.same("VOICES", x.count(1), 1);
        Check.same("STEPS", x.count(4), 5);
    }

    private static void whatAParameterStandsFor() {
        Check.sentence("a PARAMETER there stands for the BLOCK that was given, with those PARAMETERS that stood where"
                + " that was written; all else is as it is AT HAND where it is performed");
        Check.form("=a p q r s{$p $q $r $s $p} $a{c:1}{d}{}{e f}", "c:1 d:1 e:1 f:1 c:1");
        Check.form("=a p{$p} $a{}", "");
        // the same name in both
        Check.form("=a p q{$p $q} =b p q{$a{$q}{$p}} $b{c:1}{d:2}", "d:2 c:1");
        Check.form("=a p{$p} =b p{$a{$a{$a{$p}}}} $b{c:1}", "c:1");
        Check.form("=a p q{$p} =b q{$a{$q e}{f}} =c p{$b{$p d}} $c{c:1}", "c:1 d:1 e:1");
        Check.form("=a p{T 2/1{$p}} X 7 12{$a{L{b:4 $a{g}}}}", "b:2 g:1");
    }

    private static String chain(int n) {
        // each hands its PARAMETER on: n names, then n PARAMETERS are open at once
        StringBuilder s = new StringBuilder("=a p{$p}");
        for (int k = 1; k < n; k++) {
            s.append('=').append((char) ('a' + k)).append(" p{$").append((char) ('a' + k - 1)).append("{$p}}");
        }
        return s.toString();
    }

    private static void usesOpen() {
        Check.sentence("FAULT 5: with it more than 24 $ would be open (a PARAMETER's counts, too)");
        String twelve = chain(12);
        Check.holds(twelve + "$l{c}", 1);
        Check.holds(twelve + "$l{c} $l{d} R 3{$l{}}", 2);
        Check.faulty(twelve + "=z{c} $l{$z}", 5, twelve.length() + 9);
        Check.holds(twelve + "=z{c} $k{$z $z}", 2);
        Check.faulty(twelve + "=z{$l{c}} $z", 5, twelve.length() - 4);
        Check.faulty(chain(13) + " $m{c}", 5, twelve.length() - 4);
        Check.faulty(twelve + "=z{} =y p{$p} $l{$y{c}}", 5, twelve.length() + 17);
    }

    private static String nested(String music, int n) {
        return Check.times("L{", n) + music + Check.times("}", n);
    }

    private static void deepest() {
        Check.sentence("FAULT 5: with it more than 24 $ would be open; the ninth BLOCK or [ that would be open at once");
        // 20 names with 8 BLOCKS each, 4 PARAMETERS, 7 BLOCKS of the text around them, one given
        StringBuilder s = new StringBuilder("=a p{" + nested("$p", 7) + "}");
        s.append("=b p{").append(nested("$a{$p}", 6)).append('}');
        s.append("=c p{").append(nested("$b{$p}", 6)).append('}');
        s.append("=d p{").append(nested("$c{$p}", 6)).append('}');
        s.append("=e{").append(nested("$d{c}", 6)).append('}');
        for (char n = 'f'; n <= 't'; n++) {
            s.append('=').append(n).append('{').append(nested("$" + (char) (n - 1), 7)).append('}');
        }
        Check.holds(s + nested("$t", 8), 1);
        Check.holds(s + nested("L{" + nested("$t", 6) + " $s}", 1), 2);
    }

    private static void firstMusic() {
        Check.sentence("[: the first MUSIC in the VOICE AT HAND");
        OwnText x = Check.good("[c] [[d] / [e / f]]");
        Check.same("VOICES", Check.events(x, 0), "0 0 1 2");
        Check.same("how many", x.count(1), 3);
        Check.same("[ without more", Check.good("[c [d [e]]]").count(1), 1);
    }

    private static void voicesBegin() {
        Check.sentence("each other one in a new VOICE, with the next number, that begins with TIME, LENGTH, LAST PITCH"
                + " as they were ahead of the [");
        Check.form("L{b:5 [a:7 a / g / f]}", "[ b,:5 a,:7 a,:7 / r:5 g,:5 / r:5 f,:5 ]");
        OwnText x = Check.good("c [d / e [f / g] / a] [b / c]");
        Check.same("VOICES", Check.events(x, 0), "0 0 1 1 2 3 0 0 4");
        Check.same("TIMES", Check.events(x, 4),
                "0 967680 967680 1935360 1935360 967680 1935360 2903040 2903040");
    }

    private static void manyVoices() {
        Check.sentence("FAULT 5: more than 12 VOICES");
        Check.same("12", Check.good("[" + Check.times("/", 11) + "]").count(1), 12);
        Check.faulty("r [" + Check.times("/", 12) + "]", 5, 2);
        Check.same("12 by rounds", Check.good("R 11{[/]}").count(1), 12);
        Check.faulty("R 12{ [/]}", 5, 6);
        Check.faulty("[" + Check.times("c/", 11) + "c] r [d/]", 5, 28);
        Check.same("no more VOICE", Check.good("[" + Check.times("c/", 11) + "c] [d]").count(1), 12);
        Check.same("12 within", Check.good("[/[/[/[/[/[/[/[////]]]]]]]]").count(1), 12);
        Check.faulty("[/[/[/[/[/[/[/[/////]]]]]]]]", 5, 14);
        // it is told where the VOICE would begin
        Check.faulty("R 11{[/]} [ c'''''' / d]", 3, 12);
        Check.faulty("R 11{[/]} [ c / d'''''']", 5, 10);
    }

    private static void voicesEnd() {
        Check.sentence("and ends behind it");
        Check.faulty("[c / d~] d", 6, 5);
        Check.faulty("[c / d~ / d]", 6, 5);
        Check.faulty("[c / [d~ / e] ]", 6, 6);
        Check.holds("[c / [d~ / e] d]", 5);
    }

    private static void behindVoices() {
        Check.sentence("Then the VOICE is that from before, LENGTH and LAST PITCH are as the first MUSIC left them,"
                + " TIME is the greatest at which one of them ended");
        Check.form("L{c:1 [f:2 / b:3 b'] b}", "[ c:1 f:2 r:4 b:2 / r:1 b,:3 b:3 ]");
        Check.form("L{[ / c:9 f] f}", "[ r:18 f:967680 / c:9 f:9 ]");
        OwnText x = Check.good("r [c1 / d2 / e4 f1. / g] a");
        Check.same("TIME", x.event(6, 4) + " " + x.event(6, 5), "4838400 2903040");
        Check.same("TIME", x.event(7, 4) + " " + x.event(7, 0), "7741440 0");
        // nothing is to be filled: the first is the greatest
        Check.same("no rest", Check.events(Check.good("[c2 / d4 / e2] f"), 4), "0 0 0 1935360");
    }

    private static void fillingRests() {
        Check.sentence("if the first one ended earlier, a rest up to there is an EVENT more of its VOICE");
        Check.form("[c:5 / d:6]", "[ c:5 r:1 / d:6 ]");
        Check.form("[c:5 / d:5]", "[ c:5 / d:5 ]");
        Check.form("[c:6 / d:5]", "[ c:6 / d:5 ]");
        Check.form("[ / d:5 / e:7]", "[ r:7 / d:5 / e:7 ]");
        Check.form("[ / c:" + MOST + "]", "[ r:" + MOST + " / c:" + MOST + " ]");
        Check.form("[ / [ / c:5] c:5]", "[ r:10 / r:5 c:5 / c:5 ]");
        Check.same("as they came", Check.events(Check.good("[c:5 / d:6] e"), 0), "0 1 0 0");
        Check.same("a rest", Check.events(Check.good("[c:5 / d:6] e"), 1), "1 1 0 1");
        Check.same("T does not count", Check.events(Check.good("T 2/1{[c:2 / d:8]}"), 5), "1 4 3");
        // it is an EVENT as others are: FAULT 6 at the ~, FAULT 5 at the [
        Check.faulty("r [c:5~ / d:6] c", 6, 3);
        Check.faulty(Check.times("c", 298) + " [c:5 / d:6]", 5, 299);
        Check.holds(Check.times("c", 298) + " [c:6 / d:6]", 300);
        Check.faulty(Check.times("c", 298) + " [c:5~ / d:6]", 6, 300);
    }

    private static void textEnds() {
        Check.sentence("At the end of the text VOICE 0 ends");
        Check.faulty("c d~", 6, 2);
        Check.faulty("[c~]", 6, 1);
        Check.faulty("=a p{$p} R 2{$a{c~}}", 6, 16);
        Check.holds("c~ [c]", 2);
    }

    private static void firstMeter() {
        Check.sentence("METERS: 4 / 4 from TIME 0");
        Check.same("METERS", Check.good("").count(5), 1);
        OwnText x = Check.good("| c1 | c2 c | ");
        Check.same("n", x.bar(0, 1), 4);
        Check.same("m", x.bar(1, 2), 4);
        Check.faulty("c2. |", 7, 4);
    }

    private static void meterInPlace() {
        Check.sentence("a BAR is n times a whole note by m, from this TIME on (in place of a METER of the same TIME)");
        for (int m = 1; m <= 32; m *= 2) {
            for (int n = 1; n <= 32; n++) {
                long ticks = 3870720L / m * n;
                String text = "M " + n + "/" + m + " r:" + ticks + " | r:" + ticks + " |";
                OwnText x = Check.good(text);
                Check.same("BARS of " + text, x.count(6), 2);
                Check.same("METERS of " + text, x.count(5), 1);
                Check.same("second BAR of " + text, x.bar(1, 0), ticks);
                String early = "M " + n + "/" + m + " r:" + (ticks - 1) + " ";
                Check.faulty(early + "|", 7, early.length());
            }
        }
        OwnText x = Check.good("M 2/4 M 3/4 c2. M 2/4 M 5/8 c:2419200 |");
        Check.same("METERS", x.count(5), 2);
        Check.same("first", x.bar(0, 1) + "/" + x.bar(0, 2), "3/4");
        Check.same("second", x.bar(1, 1) + "/" + x.bar(1, 2), "5/8");
        Check.same("a METER at the end", Check.good("c1 M 3/4 M 4/4").count(5), 2);
        Check.same("the very same METER", Check.good("c1 M 4/4").count(5), 2);
    }

    private static void meterRefused() {
        Check.sentence("FAULT 7: a [ is open; TIME is no BAR's beginning");
        Check.faulty("[M 4/4]", 7, 1);
        Check.faulty("[ c1 / M 3/4]", 7, 7);
        Check.faulty("[L{X 0 0{M 4/4}}]", 7, 9);
        Check.faulty("=a{M 4/4} [$a]", 7, 3);
        Check.faulty("=a p{[$p]} $a{M 4/4}", 7, 14);
        Check.good("[c1] M 3/4 [] M 2/4 L{M 4/4} =a{M 3/4} $a");
        Check.faulty("r:1 M 4/4", 7, 4);
        Check.faulty("r:3870719 M 4/4", 7, 10);
        Check.faulty("r:3870721 M 4/4", 7, 10);
        Check.good("r:3870720 M 4/4");
        Check.faulty("M 3/4 c1 M 4/4", 7, 9);
        Check.good("M 3/4 c1 r2 M 4/4");
        Check.good("R 39{M 1/32 c32}");
    }

    private static void manyMeters() {
        Check.sentence("5: the 41st METER");
        Check.same("40", Check.good("R 39{c1 M 3/4 M 4/4}").count(5), 40);
        Check.faulty("R 40{c1 M 4/4}", 5, 8);
        Check.faulty("R 39{c1 M 4/4} c1 M 3/4", 5, 18);
        Check.same("in place of the 40th", Check.good("R 39{c1 M 4/4} M 3/4 M 2/4").count(5), 40);
        Check.same("the first counts", Check.good("R 40{M 4/4 c1}").count(5), 40);
        Check.faulty("R 41{M 4/4 c1}", 5, 5);
        // 7 ahead of 5
        Check.faulty("R 39{c1 M 4/4} c2 M 3/4", 7, 18);
        Check.faulty("R 39{c1 M 4/4} c1 [M 3/4]", 7, 19);
    }

    private static void barLines() {
        Check.sentence("|: FAULT 7, where TIME is no BAR's beginning");
        Check.good("|||");
        Check.faulty("r:1 |", 7, 4);
        Check.faulty("r:3870719 |", 7, 10);
        Check.good("r:3870720 |");
        Check.faulty("r:3870721 |", 7, 10);
        Check.good("r:" + MOST + " |");
        Check.faulty("r:3870719999 |", 7, 13);
        Check.faulty("M 3/4 r2. | M 4/4 r2. |", 7, 22);
        Check.good("M 3/4 r2. | M 4/4 r1 | [r1 | r1 | / r1 |] |");
        Check.faulty("[r1 / c |]", 7, 8);
        Check.faulty("[r2 / c |]", 7, 8);
        // the TIME of the VOICE AT HAND
        Check.faulty("c [c2. | / c4 |] ", 7, 14);
    }

    private static void syllablesGo() {
        Check.sentence("each SYLLABLE is, of VERSE v, that of the first EVENT of the VOICE AT HAND that has PITCHES, is"
                + " not tied to by the one ahead, and has none of that VERSE");
        Check.form("r:1 c W 1 \"a\"", "r:1 c:1 W 1 \"a\"");
        Check.form("c:1~ c~ c d W 1 \"a b\"", "c:1~ c:1~ c:1 d:1 W 1 \"a b\"");
        Check.form("c:1 d e W 3 \"a\" W 3 \"b c\" W 1 \"d\"", "c:1 d:1 e:1 W 1 \"d\" W 3 \"a b c\"");
        Check.form("c:1 W 2 \"a\" d W 2 \"b\"", "c:1 d:1 W 2 \"a b\"");
        Check.form("c:1 [d / e W 1 \"x\" / f] W 1 \"a b\"", "[ c:1 d:1 W 1 \"a b\" / r:1 e:1 W 1 \"x\" / r:1 f:1 ]");
        Check.form("c:1 d [W 1 \"a\" / ] W 1 \"b\"", "[ c:1 d:1 W 1 \"a b\" / r:2 ]");
        Check.form("c:1~ W 1 \"a\" c", "c:1~ c:1 W 1 \"a\"");
        String all = Check.times("c", 100) + "W 1 \"" + Check.times("a ", 100) + "\"";
        Check.same("100", Check.syllable(Check.good(all), 99, 1), "a");
    }

    private static void bareSyllables() {
        Check.sentence("_ alone is one without bytes");
        OwnText x = Check.good("c:1 d e W 1 \"_ a\" W 1 \"_\" W 2 \"__ _a a_\"");
        Check.same("_", x.word(0, 1, 0), OwnText.NONE);
        Check.same("behind it", Check.syllable(x, 1, 1), "a");
        Check.same("__", Check.syllable(x, 0, 2), "__");
        Check.same("_a", Check.syllable(x, 1, 2), "_a");
        Check.same("a_", Check.syllable(x, 2, 2), "a_");
        // it is one, all the same: no other of that VERSE comes there
        Check.faulty("c W 1 \"_\" W 1 \"a\"", 8, 15);
        Check.faulty("c W 1 \"_ _\"", 8, 9);
    }

    private static void noEventForASyllable() {
        Check.sentence("FAULT 8, at its first byte: there is no such EVENT");
        for (String text : List.of("", "r", "=a{c}", "[ / c]", "R 0{c}")) {
            Check.faulty(text + " W 1 \n\"\n ab\"", 8, text.length() + 9);
            Check.good(text + " W 1 \" \"");
        }
        Check.faulty("c r W 1 \"a b\"", 8, 11);
        Check.faulty("c~ c W 2 \"a  b\"", 8, 13);
        Check.faulty("[c / W 3 \"a\"]", 8, 10);
        Check.faulty("W 1 \"a\" c", 8, 5);
        Check.faulty("R 2{c W 1 \"a b\"}", 8, 13);
        Check.faulty("=a{W 1 \"ab c\"} c $a", 8, 11);
    }
}
