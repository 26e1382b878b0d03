import java.util.List;

/**
 * The boundary cases of "1 TEXTS": what may stand where, how many, how large. Each method is about one
 * sentence of the document, and tells its words.
 */
public final class TextBoundsTest {
    private static final int BYTES = 256;

    public static void main(String[] args) {
        longestTexts();
        blankBytes();
        remarks();
        blanksWithinWords();
        blanksWhereTheyMayStand();
        blanksNowhereElse();
        emptyMusic();
        itemBegins();
        pitchLetters();
        sharpsAndFlats();
        octaveMarks();
        tiesOfRests();
        lengthForms();
        digitsOfNumbers();
        digitsOfMoves();
        nameLetters();
        syllableBytes();
        sideBySide();
        Check.done();
    }

    private static String blanks(int n) {
        return Check.times(" ", n);
    }

    private static void longestTexts() {
        Check.sentence("THE TAPE has at most 1500 bytes");
        Check.holds(blanks(1499) + "c", 1);
        Check.faulty(blanks(1499) + "}", 1, 1499);
        Check.faulty("L" + blanks(1499), 1, 1500);
        Check.holds("R 1{" + Check.times("c", 300) + blanks(1195) + "}", 300);
        Check.holds("%" + Check.times("x", 1499), 0);
        Check.same("1500 ITEMS", Check.good(Check.times("|", 1500)).count(4), 1500);
        Check.same("1494 in a BLOCK", Check.good("R 2{" + Check.times("|", 1495) + "}").count(4), 2993);
        Check.faulty("[" + Check.times("/", 1498) + "]", 5, 0);
        Check.faulty("W 1\"" + Check.times("a ", 747) + " \"", 8, 4);
    }

    private static void blankBytes() {
        Check.sentence("BLANKS: bytes 32, 10");
        Check.holds("c d", 2);
        Check.holds("c\nd", 2);
        Check.holds("c \n\n  \nd", 2);
        for (int b = 0; b < BYTES; b++) {
            if (b < 32 && b != 10 || b > 126) {
                Check.faulty("c" + (char) b + "d", 1, 1);
            }
        }
    }

    private static void remarks() {
        Check.sentence("and from a % up to the next 10, or the end");
        Check.holds("%", 0);
        Check.holds("c%", 1);
        Check.holds("c%d", 1);
        Check.holds("c%d\ne", 2);
        Check.holds("c%%d\n%\ne%f\n%g", 2);
        Check.holds("%\n\nc", 1);
        for (int b = 0; b < BYTES; b++) {
            Check.holds("c%" + (char) b + "\nd", 2);
        }
        // the end of the text is no end of a BLOCK
        Check.faulty("L{c%}", 1, 5);
        Check.faulty("[c%]", 1, 4);
        Check.faulty("<c%>", 1, 4);
        Check.faulty("R 1%{c}", 1, 7);
    }

    private static void blanksWithinWords() {
        Check.sentence("within \" \" 32 and 10 alone");
        Check.same("32, 10", Check.normalForm(Check.good("c:1 d W 1\" \n a\n\n b \n\"")), "c:1 d:1 W 1 \"a b\"");
        Check.same("% is a byte", Check.syllable(Check.good("c W 1 \"%\""), 0, 1), "%");
        Check.same("% is a byte", Check.syllable(Check.good("c W 1 \"%a\n\""), 0, 1), "%a");
        Check.faulty("c W 1 \"a%b\n%c\"", 8, 11);
        Check.holds("c W 1 \"%\"d", 2);
    }

    /** Ahead of each part, but the first, BLANKS may stand; within a part they may not. */
    private static final String[][] PARTS = {
        {"c+'4.~", "c+'4.", "r8", "d--,,:12", "e"},
        {"<", "c+'", "e-,", ">2..~", "<", "c+'", "e-,", ">:7"},
        {"|", "M", "3", "/", "4", "c2.", "|"},
        {"L", "{", "g", "}", "L", "{", "}"},
        {"R", "2", "{", "c8", "}"},
        {"T", "3", "/", "2", "{", "c8", "}"},
        {"X", "-1", "-2", "{", "c8", "}", "X", "0", "-1", "{", "}"},
        {"[", "c", "/", "d2", "/", "]"},
        {"c", "W", "1", "\"", "a", "\"", "W", "2", "\"", "\""},
        {"=", "a", " p", " q", "{", "$", "q", "$", "p", "}", "$", "a", "{", "c", "}", "{", "d", "}"},
    };

    private static String joined(String[] parts, int at, String blank) {
        StringBuilder s = new StringBuilder();
        for (int k = 0; k < parts.length; k++) {
            s.append(k == at ? blank : "").append(parts[k]);
        }
        return s.append(at == parts.length ? blank : "").toString();
    }

    private static boolean withinWords(String[] parts, int at) {
        boolean within = false;
        for (int k = 0; k < at; k++) {
            within ^= parts[k].equals("\"");
        }
        return within;
    }

    private static void blanksWhereTheyMayStand() {
        Check.sentence("They may stand, as many as one likes, ahead of each ITEM, BLOCK, NAME, N, S, of PITCHES"
                + " in a CHORD, of > ] / } and of the first \", ahead of each SYLLABLE and the second \"");
        String[] some = {" ", "\n", "%x{\"\n", " \n % % \n\n ", blanks(1300)};
        for (String[] parts : PARTS) {
            String due = Snapshot.of(Check.good(joined(parts, -1, "")));
            for (int at = 0; at <= parts.length; at++) {
                for (String blank : some) {
                    if (!withinWords(parts, at) || blank.indexOf('%') < 0) {
                        String text = joined(parts, at, blank);
                        Check.same("answers of " + text, Snapshot.of(Check.good(text)), due);
                    }
                }
            }
        }
    }

    private static void blanksNowhereElse() {
        Check.sentence("nowhere else (not ahead of a LENGTH, a dot, ~)");
        for (String[] parts : PARTS) {
            int place = 0;
            for (String part : parts) {
                for (int k = 1; k < part.length() && part.charAt(0) != ' '; k++) {
                    // behind : or - the blank is what cannot stand; else it could be ahead of an ITEM
                    char ahead = part.charAt(k - 1);
                    boolean digitDue = ahead == ':' || ahead == '-' && part.charAt(0) == '-';
                    String text = joined(parts, -1, "");
                    int at = place + k;
                    for (String blank : List.of(" ", "\n", "%\n")) {
                        int fault = digitDue ? at : at + blank.length();
                        Check.faulty(text.substring(0, at) + blank + text.substring(at), 1, fault);
                    }
                }
                place += part.length();
            }
        }
        Check.faulty("M 1 2/4", 1, 4);
        Check.faulty("c1 6", 1, 3);
        Check.faulty("c:1 0", 1, 4);
    }

    private static void emptyMusic() {
        Check.sentence("MUSIC: { ITEM }");
        for (String text : List.of("", " ", "L{}", "R 0{}", "R 50{ }", "T 1/9{}", "X 0 0{\n}", "[]", "[ ]",
                "=a{}", "=a{%}\n}", "=a p{} $a{}", "=a p{$p} $a{}", "W 1\"\"")) {
            Check.holds(text, 0);
        }
        Check.same("three VOICES without ITEMS", Check.good("[//]").count(1), 3);
    }

    private static void itemBegins() {
        Check.sentence("KINDS of FAULTS: 1 a byte that cannot stand there, or the end, where more must come");
        for (int b = 0; b < BYTES; b++) {
            String text = "" + (char) b;
            if ("abcdefgr".indexOf(b) >= 0) {
                Check.holds(text, 1);
            } else if (" \n%|".indexOf(b) >= 0) {
                Check.holds(text, 0);
            } else if ("<MLRTX[W=$".indexOf(b) >= 0) {
                Check.faulty(text, 1, 1);
            } else {
                Check.faulty(text, 1, 0);
            }
        }
        for (String text : List.of("=", "= ", "=a", "=a ", "=a p", "=a p ", "=a{", "=a{c ", "$", "$ ", "M", "M ",
                "M 3", "M 3 ", "M 3/", "M 3/ ", "R", "R 2", "R 2 ", "R 2{", "T", "T 3", "T 3/", "T 3/2", "T 3/2{",
                "X", "X -", "X -1", "X -1 ", "X -1 -", "X -1 2", "X -1 2{", "L", "L ", "L%\n", "L{", "L{c", "[",
                "[c ", "[c/", "[c/d", "W", "W 1", "W 1 ", "W 1\"", "W 1\" ", "W 1\"a", "W 1\"a ", "<", "< ", "<c",
                "<c ", "<cdefga", "c:", "r:", "<c>:", "=a p{} $a", "=a p q{} $a{} ", "=a p{} $a{")) {
            Check.faulty(text, 1, text.length());
        }
    }

    private static void pitchLetters() {
        Check.sentence("PITCH: a letter a to g");
        for (int b = 33; b < BYTES; b++) {
            boolean letter = b >= 'a' && b <= 'g';
            if (letter) {
                Check.holds("<" + (char) b + ">", 1);
            } else if (b != '%') {
                Check.faulty("<" + (char) b + ">", 1, 1);
            }
        }
        Check.sentence("'<' PITCH { PITCH } '>'");
        Check.faulty("<>", 1, 1);
        Check.faulty("< >", 1, 2);
        Check.same("one", Check.good("<c>").event(0, 1), 1);
        Check.sentence("a seventh PITCH of a CHORD, at its letter");
        Check.same("six", Check.good("<cdefga>").event(0, 1), 6);
        Check.faulty("<cdefgab>", 5, 7);
        Check.faulty("r <c+' d e f g a \n b>", 5, 19);
        Check.faulty("<cdefgah>", 1, 7);
        Check.faulty("<cdefga<", 1, 7);
    }

    private static void sharpsAndFlats() {
        Check.sentence("up to two + or up to two -");
        String[] marks = {"", "+", "++", "-", "--"};
        int[] due = {0, 1, 2, -1, -2};
        for (int k = 0; k < marks.length; k++) {
            Check.same(marks[k], Check.good("c" + marks[k]).pitch(0, 0, 1), due[k]);
            Check.same(marks[k], Check.good("<e c" + marks[k] + "'>").pitch(0, 1, 1), due[k]);
        }
        Check.sentence("of + - ' , and dots the one too many cannot stand");
        Check.faulty("c+++", 1, 3);
        Check.faulty("c---", 1, 3);
        Check.faulty("<c+++", 1, 4);
        Check.faulty("c+-", 1, 2);
        Check.faulty("c-+", 1, 2);
        Check.faulty("c++-", 1, 3);
        Check.faulty("c'+", 1, 2);
        Check.faulty("r+", 1, 1);
    }

    private static void octaveMarks() {
        Check.sentence("up to nine ' or up to nine ,");
        for (int n = 0; n <= 9; n++) {
            OwnText up = Check.good("L{c,,,, c" + Check.times("'", n) + "}");
            Check.same(n + " '", up.pitch(1, 0, 2), n);
            OwnText down = Check.good("L{c''''' c" + Check.times(",", n) + "}");
            Check.same(n + " ,", down.pitch(1, 0, 2), 9 - n);
        }
        Check.faulty("R 0{c" + Check.times("'", 10) + "}", 1, 14);
        Check.faulty("R 0{c" + Check.times(",", 10) + "}", 1, 14);
        Check.faulty("R 0{c" + Check.times("'", 9) + "9}", 2, 14);
        Check.faulty("c',", 1, 2);
        Check.faulty("c,'", 1, 2);
        Check.faulty("r'", 1, 1);
        Check.faulty("r,", 1, 1);
    }

    private static void tiesOfRests() {
        Check.sentence("PITCH LENGTH [ '~' ] | 'r' LENGTH | CHORD LENGTH [ '~' ]");
        Check.holds("c~c", 2);
        Check.holds("<c>8~c", 2);
        Check.faulty("r~", 1, 1);
        Check.faulty("r4.~", 1, 3);
        Check.faulty("c~~c", 1, 2);
        Check.faulty("c~4", 1, 2);
        Check.faulty("<c~>", 1, 2);
    }

    private static void lengthForms() {
        Check.sentence("LENGTH: nothing, or N and up to three dots, or : and 1 to 10 digits");
        for (String head : List.of("c", "r", "<c e>", "c--,,")) {
            int place = head.length();
            Check.same(head, Check.good(head).event(0, 5), 967680);
            for (int dots = 0; dots <= 3; dots++) {
                Check.holds(head + "64" + Check.times(".", dots), 1);
            }
            Check.faulty(head + "64....", 1, place + 5);
            Check.faulty(head + ".", 1, place);
            Check.faulty(head + ":", 1, place + 1);
            Check.faulty(head + ":.", 1, place + 1);
            Check.faulty(head + ":8.", 1, place + 2);
            Check.faulty(head + "8:8", 1, place + 1);
            Check.same(head, Check.good(head + ":9").event(0, 5), 9);
            Check.same(head, Check.good(head + ":0000000009").event(0, 5), 9);
            Check.sentence("2 a number that has too many digits, at its first digit");
            Check.faulty(head + ":00000000009", 2, place + 1);
            Check.faulty(head + ":" + Check.times("9", 400), 2, place + 1);
            Check.sentence("LENGTH: nothing, or N and up to three dots, or : and 1 to 10 digits");
        }
        Check.sentence("of : 1 to 3870720000");
        Check.faulty("c:0", 2, 2);
        Check.faulty("c:0000000000", 2, 2);
        Check.same("least", Check.good("c:1").event(0, 5), 1);
        Check.same("most", Check.good("c:3870720000").event(0, 5), 3870720000L);
        Check.faulty("c:3870720001", 2, 2);
        Check.faulty("c:4294967297", 2, 2);
        Check.faulty("c:9999999999", 2, 2);
    }

    /** A number in all its forms: 0 to 999, of one to four digits. */
    private static void numbers(String head, String tail, int... allowed) {
        int place = head.length();
        for (int n = 0; n <= 999; n++) {
            String digits = Integer.toString(n);
            boolean good = false;
            for (int a : allowed) {
                good |= a == n;
            }
            for (String number : List.of(digits, ("00" + digits).substring(digits.length() - 1))) {
                if (good) {
                    Check.good(head + number + tail);
                } else {
                    Check.faulty(head + number + tail, 2, place);
                }
            }
        }
        Check.faulty(head + "0001" + tail, 2, place);
        Check.faulty(head + "1000" + tail, 2, place);
        Check.faulty(head + Check.times("4", 99) + tail, 2, place);
    }

    private static int[] span(int low, int high) {
        int[] all = new int[high - low + 1];
        for (int n = low; n <= high; n++) {
            all[n - low] = n;
        }
        return all;
    }

    private static void digitsOfNumbers() {
        Check.sentence("N: 1 to 3 digits; 2 a number that is not as told, or has too many digits, at its first digit:"
                + " of a LENGTH 1, 2, 4, 8, 16, 32, 64; of M 1 to 32, then 1, 2, 4, 8, 16, 32; of R 0 to 50;"
                + " of T 1 to 9 each; of W 1 to 3");
        numbers("c", "", 1, 2, 4, 8, 16, 32, 64);
        numbers("<c e>", ".", 1, 2, 4, 8, 16, 32, 64);
        numbers("r", "...", 1, 2, 4, 8, 16, 32, 64);
        numbers("M ", "/4", span(1, 32));
        numbers("M 4/", "", 1, 2, 4, 8, 16, 32);
        numbers("R ", "{}", span(0, 50));
        numbers("T \n", "/1{}", span(1, 9));
        numbers("T 1 / ", "{}", span(1, 9));
        numbers("W ", "\"\"", 1, 2, 3);
        for (String text : List.of("M /4", "M 4/ c", "R {}", "T /1{}", "T 1/{}", "W \"\"", "M -1/4", "R -1{}",
                "R +1{}", "T -1/1{}", "W -1\"\"")) {
            int place = text.charAt(2) == '4' ? 5 : text.charAt(2) == '1' ? 4 : 2;
            Check.faulty(text, 1, place);
        }
    }

    private static void digitsOfMoves() {
        Check.sentence("S: perhaps -, 1 or 2 digits");
        for (int n = -99; n <= 99; n++) {
            Check.good("R 0{X " + n + " 0{c}} R 0{X 0 " + n + "{c}}");
        }
        Check.good("X -0 -00{c} X 00 -0{c} X0-0{c}");
        Check.faulty("X {}", 1, 2);
        Check.faulty("X - 1 1{}", 1, 3);
        Check.faulty("X 1 {}", 1, 4);
        Check.faulty("X 1 -{}", 1, 5);
        Check.faulty("X --1 1{}", 1, 3);
        Check.faulty("X +1 1{}", 1, 2);
        Check.faulty("X 12{}", 1, 4);
        Check.sentence("2 a number that has too many digits, at its first digit");
        Check.faulty("X 100 1{}", 2, 2);
        Check.faulty("X 001 1{}", 2, 2);
        Check.faulty("X -001 1{}", 2, 3);
        Check.faulty("X 1 100{}", 2, 4);
        Check.faulty("X 1 -000{}", 2, 5);
    }

    private static void nameLetters() {
        Check.sentence("NAME: 1 to 6 letters a to z");
        for (int b = 33; b < BYTES; b++) {
            if (b >= 'a' && b <= 'z') {
                Check.good("=" + (char) b + "{c}$" + (char) b);
            } else if (b != '%') {
                Check.faulty("=" + (char) b + "{}", 1, 1);
                Check.faulty("$" + (char) b, 1, 1);
                Check.faulty("=a" + (char) b, 1, b == '{' ? 3 : 2);
            }
        }
        for (int n = 1; n <= 6; n++) {
            String name = "abcdef".substring(0, n);
            Check.holds("=" + name + "{c} $" + name, 1);
            Check.holds("=x " + name + "{$" + name + "} $x{d}", 1);
        }
        for (char a = 'a'; a <= 'z'; a++) {
            Check.holds("=ja{} =" + a + "{} =" + a + a + "{c} $" + a + a, 1);
            for (char b = 'a'; b <= 'z'; b++) {
                String name = "" + a + b;
                if (!name.equals("ja")) {
                    Check.faulty("=ja{} =q{} $" + name, 4, 12);
                }
            }
            for (int k = 0; k < 6; k++) {
                String name = "mmmmm".substring(0, k) + a + "mmmmm".substring(k);
                if (a != 'm') {
                    Check.faulty("=mmmmmm{} $" + name, 4, 11);
                    Check.holds("=mmmmmm{} =" + name + "{c} $" + name, 1);
                }
            }
        }
        // as many letters belong together as there are side by side
        Check.faulty("=ab{c}$a", 4, 7);
        Check.faulty("=a{c}$ab", 4, 6);
        Check.faulty("=a{c}$ac", 4, 6);
        Check.holds("=a{c}$a c", 2);
    }

    private static void syllableBytes() {
        Check.sentence("SYLLABLE: 1 to 12 bytes 33 .. 126 but \"");
        for (int b = 0; b < BYTES; b++) {
            String text = "c W 1 \"" + (char) b + "\"";
            if (b == '"') {
                Check.faulty(text, 1, 8);
            } else if (b == ' ' || b == '\n') {
                Check.same("no byte of a SYLLABLE", Check.good(text).word(0, 1, 0), OwnText.NONE);
            } else if (b > 32 && b < 127) {
                Check.same("byte " + b, Check.good(text).word(0, 1, 0), b == '_' ? OwnText.NONE : b);
            } else {
                Check.faulty(text, 1, 7);
            }
        }
        for (int n = 1; n <= 12; n++) {
            String syllable = "abcdefghijkl".substring(0, n);
            Check.same(n + " bytes", Check.syllable(Check.good("c W 1 \"" + syllable + "\""), 0, 1), syllable);
        }
        Check.sentence("a SYLLABLE of more than 12 bytes, at the first byte of it");
        Check.faulty("c W 1 \"abcdefghijklm\"", 5, 7);
        Check.faulty("c d W 1 \"ab \n" + Check.times("_", 13) + "\"", 5, 13);
        Check.faulty("c W 1 \"" + Check.times("a", 900), 5, 7);
    }

    private static void sideBySide() {
        Check.sentence("Of digits, letters of a NAME, bytes of a SYLLABLE as many belong together as there are side"
                + " by side");
        Check.faulty("c48", 2, 1);
        Check.faulty("c88d", 2, 1);
        Check.holds("c8d8", 2);
        Check.faulty("R 11111{}", 2, 2);
        Check.faulty("=abcdefghijkl{}", 5, 1);
        Check.same("one SYLLABLE", Check.syllable(Check.good("c d W 1 \"la-la\""), 0, 1), "la-la");
        Check.faulty("c W 1 \"ab cd\"", 8, 10);
    }
}
