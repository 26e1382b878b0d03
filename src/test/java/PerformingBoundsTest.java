import java.util.List;

/**
 * The boundary cases of "2 PERFORMING": STEPS, LENGTHS, PITCHES, EVENTS, TIES. Each method is about one
 * sentence of the document, and tells its words.
 */
public final class PerformingBoundsTest {
    private static final String MOST = "3870720000";
    private static final String FIVE_UP = "'''''";
    private static final String FOUR_DOWN = ",,,,";
    private static final String LETTERS = "cdefgab";
    private static final int[] HALF_TONES = {0, 2, 4, 5, 7, 9, 11};

    public static void main(String[] args) {
        atHand();
        steps();
        stepsOfRounds();
        placesOfItems();
        wholeNotes();
        dots();
        lengthStays();
        tupletLengths();
        tupletsOpen();
        octaves();
        nearest();
        relativeBeginsAndEnds();
        chordsInRelative();
        movesOverOctaves();
        moreThanTwo();
        octaveLimits();
        anyPitchOfAChord();
        manyEvents();
        greatestTime();
        ofOneItem();
        tiedTo();
        tieTold();
        Check.done();
    }

    private static String tuplets(int n, String music) {
        return Check.times("T 1/1{", n) + music + Check.times("}", n);
    }

    private static void atHand() {
        Check.sentence("AT HAND are a VOICE (0), a TIME (0), a LENGTH (967680) and a LAST PITCH");
        OwnText x = Check.good("c");
        Check.same("VOICE", x.event(0, 0), 0);
        Check.same("TIME", x.event(0, 4), 0);
        Check.same("LENGTH", x.event(0, 5), 967680);
        // not what an earlier text left
        Check.read(x, "L{b'} [c8 / d]");
        Check.read(x, "c [d / e]");
        Check.same("LENGTHS", Check.events(x, 5), "967680 967680 967680");
        Check.same("TIMES", Check.events(x, 4), "0 967680 967680");
        Check.same("VOICES", Check.events(x, 0), "0 0 1");
    }

    private static void steps() {
        Check.sentence("each that is begun is a STEP: instead of the 3001st FAULT 5, at the ITEM");
        Check.same("none", Check.good("").count(4), 0);
        for (String item : List.of("c", "r", "<c e>", "|", "M 4/4", "L{}", "R 0{}", "T 1/1{}", "X 0 0{}", "[]",
                "[/]", "W 1\"\"", "=a{c c}")) {
            Check.same(item, Check.good(item).count(4), 1);
        }
        Check.same("$", Check.good("=a p{$p} $a{c}").count(4), 4);
        String many = "=a{R 49{R 29{|}}} $a ";
        Check.same("STEPS", Check.good(many).count(4), 2 + 1 + 49 * (1 + 1 + 29 * 2));
        String full = many + Check.times("|", 57);
        Check.same("3000", Check.good(full).count(4), 3000);
        for (String item : List.of("c", "r", "<c e>", "|", "M 4/4", "L{}", "R 0{}", "T 1/1{}", "X 0 0{}", "[]",
                "W 1\"\"", "=b{}", "$a")) {
            Check.same(item, Check.good(full.substring(0, full.length() - 1) + "r").count(4), 3000);
            Check.faulty(full + " " + item, 5, full.length() + 1);
        }
        Check.faulty(full.substring(0, full.length() - 1) + "L{c}", 5, full.length() + 1);
    }

    private static void stepsOfRounds() {
        Check.sentence("each round of an R is one more: instead of the 3001st FAULT 5, at the ITEM");
        Check.same("R 0", Check.good("R 0{|}").count(4), 1);
        Check.same("R 1", Check.good("R 1{}").count(4), 2);
        Check.same("R 50", Check.good("R 50{}").count(4), 51);
        String head = "R 49{R 29{|}} ";
        Check.same("2941", Check.good(head).count(4), 2941);
        Check.same("3000", Check.good(head + "R 50{}" + Check.times("|", 8)).count(4), 3000);
        Check.faulty(head + Check.times("|", 9) + " R 50{}", 5, head.length() + 10);
        Check.faulty(head + Check.times("|", 8) + "R 50{} c", 5, head.length() + 15);
        Check.faulty("R 50{R 50{R 50{|}}}", 5, 15);
        Check.faulty("R 50{R 50{R 50{}}}", 5, 10);
    }

    private static void placesOfItems() {
        Check.sentence("a PLACE of an ITEM is its first byte; FAULTS of performing are there, but 8");
        Check.faulty(" \n c+'''''':5~", 3, 3);
        Check.faulty("% c\n<c e''''''>4", 3, 4);
        Check.faulty("T 7 / 1 { \n r:1 }", 2, 12);
        Check.faulty("c \n|", 7, 3);
        Check.faulty("c \nM 3/4", 7, 3);
        Check.faulty("c W 1 \"a \n bcd\"", 8, 11);
        Check.sentence("The first FAULT ends it");
        Check.faulty("c | c'''''' M 3/4", 7, 2);
        Check.faulty("c c'''''' | M 3/4", 3, 2);
        Check.faulty("=a{c4 | } r1 $a c''''''", 7, 6);
    }

    private static void wholeNotes() {
        Check.sentence("There are 3870720 TICKS in a whole note. N is a whole note by N");
        long[] due = {3870720, 1935360, 967680, 483840, 241920, 120960, 60480};
        for (int k = 0; k < due.length; k++) {
            Check.same("1 / " + (1 << k), Check.good("c" + (1 << k)).event(0, 5), due[k]);
        }
    }

    private static void dots() {
        Check.sentence("with k dots 2 - 1 / 2 ^ k times that");
        for (int k = 0; k <= 6; k++) {
            long whole = 3870720L >> k;
            for (int dots = 0; dots <= 3; dots++) {
                String text = "r" + (1 << k) + Check.times(".", dots);
                long due = whole * ((2L << dots) - 1) / (1L << dots);
                Check.same(text, Check.good(text).event(0, 5), due);
            }
        }
        Check.same("the least", Check.good("c64...").event(0, 5), 113400);
    }

    private static void lengthStays() {
        Check.sentence("it stays AT HAND until another one is told");
        Check.same("dots stay", Check.events(Check.good("c8.. d r <e g> f4 g"), 5),
                "846720 846720 846720 846720 967680 967680");
        Check.same("TICKS stay", Check.events(Check.good("c:1 d r:" + MOST.substring(0, 9) + " e:2 f"), 5),
                "1 1 387072000 2 2");
        Check.same("as told, not as T makes it", Check.events(Check.good("T 3/2{c8} d T 1/2{r} e"), 5),
                "322560 483840 967680 483840");
        Check.same("out of BLOCKS", Check.events(Check.good("L{c8} d X 0 0{e16} f R 2{g a32}"), 5),
                "483840 483840 241920 241920 241920 120960 120960 120960");
    }

    private static void tupletLengths() {
        Check.sentence("times m / n for each T n / m that is open around it (all as one fraction): FAULT 2 if that is"
                + " not whole TICKS");
        for (int n = 1; n <= 9; n++) {
            for (int m = 1; m <= 9; m++) {
                String text = "T " + n + "/" + m + "{c:2520}";
                Check.same(text, Check.good(text).event(0, 5), 2520 * m / n);
                String one = "T " + n + "/" + m + "{r:1}";
                if (m % n == 0) {
                    Check.same(one, Check.good(one).event(0, 5), m / n);
                } else {
                    Check.faulty(one, 2, 6);
                }
            }
        }
        Check.same("one fraction", Check.good("T 2/1{T 3/4{T 1/3{c:1}}}").event(0, 5), 2);
        Check.faulty("T 2/1{T 3/4{T 1/3{c:1} r}}", 2, 23);
        Check.same("9 ^ 8", Check.good(Check.times("T 9/9{", 8) + "c:" + MOST + Check.times("}", 8)).event(0, 5),
                3870720000L);
        Check.sentence("or above 3870720000");
        Check.good("T 1/9{c:430080000}");
        Check.faulty("T 1/9{c:430080001}", 2, 6);
        Check.good("T 2/1{c:" + MOST + "}");
        Check.faulty("T 1/2{r:" + MOST + "}", 2, 6);
        Check.faulty(Check.times("T 1/9{", 8) + "r:" + MOST + Check.times("}", 8), 2, 48);
        // a $ is open around it too
        Check.same("T around a $", Check.good("=a{c:9} T 3/1{$a}").event(0, 5), 3);
    }

    private static void tupletsOpen() {
        Check.sentence("T: FAULT 5 if with it more than 8 T's would be open");
        Check.holds(tuplets(8, "c"), 1);
        String eight = "=a{" + tuplets(4, "c T 1/1{d}") + "} ";
        Check.holds(eight + tuplets(3, "$a"), 2);
        Check.faulty(eight + tuplets(4, "$a"), 5, 29);
        Check.faulty(eight + tuplets(5, "$a"), 5, 21);
        Check.faulty("=a{ T 1/1{}} " + tuplets(8, "$a"), 5, 4);
        Check.holds("=a{T 1/1{c}} " + tuplets(7, "$a $a R 3{$a} [$a/$a]") + "$a", 8);
        Check.holds("=a p{T 1/1{T 1/1{$p}}} " + tuplets(4, "$a{$a{c}}"), 1);
        Check.faulty("=a p{T 1/1{T 1/1{$p}}} " + tuplets(5, "$a{$a{c}}"), 5, 11);
    }

    private static void octaves() {
        Check.sentence("an octave: 4, one more for each ', one less for each ,");
        for (int n = 0; n <= 5; n++) {
            Check.same(n + " '", Check.good("b" + Check.times("'", n)).pitch(0, 0, 2), 4 + n);
        }
        for (int n = 0; n <= 4; n++) {
            Check.same(n + " ,", Check.good("c" + Check.times(",", n)).pitch(0, 0, 2), 4 - n);
        }
        // where no L is open the one ahead does not count
        Check.same("behind b", Check.good("b' c").pitch(1, 0, 2), 4);
        Check.same("behind an L", Check.good("L{b' c} c").pitch(2, 0, 2), 4);
    }

    private static void nearest() {
        Check.sentence("that one in which the letter is three letters at most above or below the LAST PITCH");
        for (int from = 0; from < 7; from++) {
            for (int to = 0; to < 7; to++) {
                int up = Math.floorMod(to - from, 7);
                int step = 35 + from + (up <= 3 ? up : up - 7);
                String first = LETTERS.charAt(from) + (from > 3 ? "''" : "'");
                String text = "L{" + first + LETTERS.charAt(to) + "}";
                OwnText x = Check.good(text);
                Check.same("first of " + text, x.pitch(0, 0, 2), 5);
                Check.same("octave of " + text, x.pitch(1, 0, 2), step / 7);
                Check.same("letter of " + text, x.pitch(1, 0, 0), step % 7);
                OwnText y = Check.good("L{" + first + LETTERS.charAt(to) + "'}");
                Check.same("with ' " + text, y.pitch(1, 0, 2), step / 7 + 1);
                OwnText z = Check.good("L{" + first + LETTERS.charAt(to) + ",,}");
                Check.same("with , " + text, z.pitch(1, 0, 2), step / 7 - 2);
            }
        }
        // + and - do not count, only letters
        Check.form("L{c:1 f++ b-- e}", "c:1 f++:1 b--:1 e':1");
        Check.form("L{c:1 g++ d-- a}", "c:1 g++,:1 d--,:1 a,,:1");
        Check.sentence("it becomes the LAST PITCH (as written, without X)");
        Check.form("L{X 7 12{c:1 f} f}", "c':1 f':1 f:1");
        Check.form("L{X -3 -5{c:1} c}", "g,:1 c:1");
        Check.form("L{b:1 r f}", "b,:1 r:1 f,:1");
    }

    private static void relativeBeginsAndEnds() {
        Check.sentence("As an L begins, the LAST PITCH is c of octave 4; as it ends, again what it was as it began");
        Check.form("L{f:1} L{g}", "f:1 g,:1");
        Check.form("L{c''':1 L{c} c}", "c''':1 c:1 c''':1");
        Check.form("L{c''':1 L{L{b} b} b}", "c''':1 b,:1 b,:1 b'':1");
        Check.form("L{L{c''':1} c}", "c''':1 c:1");
        Check.form("L{c':1 R 2{c'}}", "c':1 c'':1 c''':1");
        Check.form("L{c':1 [c' / c, / c] c}", "[ c':1 c'':1 c'':1 / r:1 c:1 / r:1 c':1 ]");
    }

    private static void chordsInRelative() {
        Check.sentence("Of a CHORD each PITCH is found from the one ahead of it in the CHORD, behind it the LAST PITCH"
                + " is its first one");
        Check.form("L{<c e g b d f>:1 c}", "<c e g b d' f'>:1 c:1");
        Check.form("L{<c g d a e b>:1 g}", "<c g, d, a,, e,, b,,,>:1 g,:1");
        Check.form("L{<g'>:1 d}", "g:1 d:1");
        Check.form("L{<c''' c, c,>:1 c}", "<c''' c'' c'>:1 c''':1");
    }

    private static void movesOverOctaves() {
        Check.sentence("the letter and octave are as told by letters, + and - become what lacks to the half tones");
        Check.form("X 1 1{b:1 e}", "c':1 f:1");
        Check.form("X -1 -1{c:1 f}", "b,:1 e:1");
        Check.form("X 7 12{c:1 b}", "c':1 b':1");
        Check.form("X -7 -12{c:1 b}", "c,:1 b,:1");
        Check.form("X 6 11{c:1 d}", "b:1 c+':1");
        Check.form("X -6 -11{b:1 c}", "c:1 d-,:1");
        Check.form("X 28 48{c,,,,:1} X -35 -60{b'''''}", "c:1 b:1");
        for (int letter = 0; letter < 7; letter++) {
            for (int by = -21; by <= 21; by++) {
                int to = 28 + letter + by;
                int half = to / 7 * 12 + HALF_TONES[to % 7] - 48 - HALF_TONES[letter];
                String text = "X " + by + " " + half + "{" + LETTERS.charAt(letter) + "}";
                OwnText x = Check.good(text);
                Check.same("letter of " + text, x.pitch(0, 0, 0), to % 7);
                Check.same("alter of " + text, x.pitch(0, 0, 1), 0);
                Check.same("octave of " + text, x.pitch(0, 0, 2), to / 7);
            }
        }
        Check.sentence("all X's that are open together");
        Check.form("X 99 0{X -99 2{c:1}}", "c++:1");
        Check.form("X 0 99{X 0 -99{c:1}} c", "c:1 c:1");
        Check.form("=a{X 1 2{c:1}} X 1 2{$a} $a", "e:1 d:1");
    }

    private static void moreThanTwo() {
        Check.sentence("FAULT 3: there would be more than two + or -");
        for (int by = -5; by <= 5; by++) {
            for (int alter = -2; alter <= 2; alter++) {
                String marks = Check.times(alter < 0 ? "-" : "+", Math.abs(alter));
                String text = "X 0 " + by + "{g" + marks + "}";
                int due = by + alter;
                if (due >= -2 && due <= 2) {
                    Check.same(text, Check.good(text).pitch(0, 0, 1), due);
                } else {
                    Check.faulty(text, 3, text.indexOf('{') + 1);
                }
            }
        }
        Check.good("X 1 4{c}");
        Check.faulty("X 1 5{c}", 3, 6);
        Check.good("X 1 0{c}");
        Check.faulty("X 1 -1{c}", 3, 7);
        Check.faulty("X 99 99{c,,,,}", 3, 8);
        // the PITCH as X moves it counts, not as each of them would alone
        Check.good("X 0 9{X 0 -9{c++}}");
    }

    private static void octaveLimits() {
        Check.sentence("or an octave below 0 or above 9 (also without X)");
        for (int k = 0; k < 7; k++) {
            String letter = LETTERS.substring(k, k + 1);
            Check.same("9", Check.good(letter + FIVE_UP).pitch(0, 0, 2), 9);
            Check.faulty(letter + FIVE_UP + "'", 3, 0);
            Check.same("0", Check.good(letter + FOUR_DOWN).pitch(0, 0, 2), 0);
            Check.faulty(letter + FOUR_DOWN + ",", 3, 0);
        }
        Check.faulty("c" + Check.times("'", 9), 3, 0);
        Check.faulty("c" + Check.times(",", 9), 3, 0);
        Check.same("b++ of octave 9", Check.good("b++" + FIVE_UP).pitch(0, 0, 3), 121);
        Check.same("c-- of octave 0", Check.good("c--" + FOUR_DOWN).pitch(0, 0, 3), -2);
        Check.form("L{c''''':1 f b}", "c''''':1 f''''':1 b''''':1");
        Check.faulty("L{c''''' f b c}", 3, 13);
        Check.form("L{c,,,,:1 d e}", "c,,,,:1 d,,,,:1 e,,,,:1");
        Check.faulty("L{c,,,, b}", 3, 8);
        Check.good("X 1 2{a" + FIVE_UP + "}");
        Check.faulty("X 1 1{b" + FIVE_UP + "}", 3, 6);
        Check.good("X -1 -2{d" + FOUR_DOWN + "}");
        Check.faulty("X -1 -1{c" + FOUR_DOWN + "}", 3, 8);
        Check.good("X 35 60{c}");
        Check.faulty("X 36 62{b}", 3, 8);
        Check.faulty("X -29 -49{c}", 3, 10);
        Check.good("X -28 -48{c}");
    }

    private static void anyPitchOfAChord() {
        Check.sentence("FAULT 3: of a CHORD in any PITCH");
        for (int k = 0; k < 6; k++) {
            String chord = "<" + Check.times("c ", k) + "c''''''" + Check.times(" c", 5 - k) + ">";
            Check.faulty("r " + chord, 3, 2);
            Check.faulty("r X 0 1{" + chord.replace("''''''", "++") + "}", 3, 8);
            Check.good("r X 0 1{" + chord.replace("''''''", "+") + "}");
        }
    }

    private static void manyEvents() {
        Check.sentence("FAULT 5: the 301st EVENT");
        Check.holds(Check.times("c", 300), 300);
        Check.faulty(Check.times("c", 301), 5, 300);
        Check.holds("R 50{R 6{r}}", 300);
        Check.faulty("R 50{R 6{r}} r", 5, 13);
        Check.faulty("R 50{R 6{r}} | <c e>", 5, 15);
        Check.holds("R 10{R 10{[ccc]}}", 300);
        Check.holds("[" + Check.times("c", 150) + "/" + Check.times("d", 150) + "]", 300);
        Check.faulty("[" + Check.times("c", 150) + "/" + Check.times("d", 151) + "]", 5, 302);
        // the rest that a [ is filled with is one too
        Check.holds(Check.times("c", 296) + "[d / e e]", 300);
        Check.faulty(Check.times("c", 297) + "[d / e e]", 5, 297);
        Check.holds(Check.times("c", 297) + "[d d / e]", 300);
    }

    private static void greatestTime() {
        Check.sentence("FAULT 5: TIME above 3870720000");
        Check.good("c:" + MOST);
        Check.faulty("c:" + MOST + " c:1", 5, 13);
        Check.faulty("c:1 r:" + MOST, 5, 4);
        Check.good("c:1 r:3870719999");
        Check.holds("R 10{r:387072000}", 10);
        Check.faulty("R 11{r:387072000}", 5, 5);
        Check.good("[r:" + MOST + " / c [d / e:1]]");
        Check.faulty("[r:" + MOST + " / r:1 c:" + MOST + "]", 5, 20);
        Check.good("T 1/9{r:430080000}");
        Check.faulty("r:1 T 1/9{r:430080000}", 5, 10);
    }

    private static void ofOneItem() {
        Check.sentence("Of one ITEM: 3, 2, 5");
        Check.faulty("T 2/1{c'''''':1}", 3, 6);
        Check.faulty("r:" + MOST + " c'''''':1", 3, 13);
        Check.faulty("r:" + MOST + " T 2/1{c:1}", 2, 19);
        Check.faulty(Check.times("c", 300) + "T 2/1{c:1}", 2, 306);
        Check.faulty(Check.times("c", 300) + "c''''''", 3, 300);
        Check.faulty(Check.times("c", 300) + "T 2/1{c'''''':1}", 3, 306);
    }

    private static void tiedTo() {
        Check.sentence("~ TIES it to the next EVENT of that VOICE: that must have the very same PITCHES, in order"
                + " (after X); else, or if the VOICE ends ahead of it, FAULT 6, at the ITEM that has the ~");
        Check.holds("c~c", 2);
        Check.holds("<c e g>4~ <c e g>8", 2);
        Check.holds("c~ W 1\"\" =a{c} L{} R 0{d} [ ] $a", 2);
        Check.holds("c1~ | M 3/4 c", 2);
        Check.faulty("r c~", 6, 2);
        Check.faulty("r c~ r", 6, 2);
        for (String next : List.of("c+", "c-", "c'", "c,", "d", "b+,", "<c e>", "<c c>", "r", "X 0 1{c}")) {
            Check.faulty("r c~ " + next, 6, 2);
        }
        for (String next : List.of("<e c>", "<c e g>", "c", "<c e+>", "<c e'>", "<c+ e>", "r", "X 1 2{<c e>}")) {
            Check.faulty("r <c e>~ " + next, 6, 2);
        }
        Check.holds("X 1 2{c~} d", 2);
        Check.holds("d~ X 1 2{c}", 2);
        Check.faulty("X 1 2{c~} c", 6, 6);
        Check.holds("L{g~} g,", 2);
        Check.faulty("L{g~} g", 6, 2);
        // each VOICE has its own
        Check.holds("c4~ [c2~ / d4~ d / e2] c4", 6);
        Check.holds("c~ [ / ] c", 2);
        Check.faulty("c [d / r e~] e", 6, 9);
        Check.faulty("c~ [d / c]", 6, 0);
        Check.faulty("[c~ / d d] c", 6, 1);
        Check.holds("R 50{c~} c", 51);
        Check.faulty("R 3{c~} ", 6, 4);
    }

    private static void tieTold() {
        Check.sentence("told as that EVENT comes, ahead of its own FAULTS 2, 5, behind 3; or as the VOICE ends");
        Check.faulty("c~ c''''''", 3, 3);
        Check.faulty("c~ <c e''''''>", 3, 3);
        Check.faulty("c~ T 2/1{d:1}", 6, 0);
        Check.faulty("c~ T 2/1{c:1}", 2, 9);
        Check.faulty("c:" + MOST + "~ d", 6, 0);
        Check.faulty("c:" + MOST + "~ c", 5, 14);
        Check.faulty(Check.times("c", 299) + "c~ d", 6, 299);
        Check.faulty(Check.times("c", 299) + "c~ c", 5, 302);
        Check.faulty("c~ d c''''''", 6, 0);
        Check.faulty("c~ d |", 6, 0);
        Check.faulty("c~ W 1 \"a b\" d", 8, 10);
        Check.faulty("c~ | d", 7, 3);
        // as the VOICE ends: ahead of what comes in the next MUSIC, and behind it
        Check.faulty("[c / d~ / e'''''']", 6, 5);
        Check.faulty("[c / d~] e''''''", 6, 5);
        Check.faulty("c~ L{ } W 1 \"a b\"", 8, 15);
        // instead of a STEP too many no EVENT comes
        Check.faulty("R 49{R 29{|}} " + Check.times("|", 58) + "c~d", 5, 74);
        Check.faulty("R 49{R 29{|}} " + Check.times("|", 57) + "c~d", 6, 71);
    }
}
