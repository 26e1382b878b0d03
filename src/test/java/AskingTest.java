/** Promises 6 to 11: event, pitch, word, walk, bar, at. */
public final class AskingTest {
    private static final int LEAST = Integer.MIN_VALUE;
    private static final int MOST = Integer.MAX_VALUE;

    public static void main(String[] args) {
        events();
        pitches();
        words();
        walking();
        bars();
        manyBars();
        sounding();
        Check.done();
    }

    private static void events() {
        OwnText x = Check.good("c4~ [c1~ / e2~ e4~ e] c8 r <d f>");
        Check.same("VOICES", Check.events(x, 0), "0 0 1 1 1 0 0 0");
        Check.same("how many", Check.events(x, 1), "1 1 1 1 1 1 0 2");
        Check.same("tied", Check.events(x, 2), "1 1 1 1 0 0 0 0");
        Check.same("tied to", Check.events(x, 3), "0 1 0 1 1 1 0 0");
        Check.same("TIME", Check.events(x, 4),
                "0 967680 967680 2903040 3870720 4838400 5322240 5806080");
        Check.same("LENGTH", Check.events(x, 5),
                "967680 3870720 1935360 967680 967680 483840 483840 483840");
        Check.same("together", Check.events(x, 6), "5322240 0 3870720 0 0 0 483840 483840");
        Check.fails("i 8", IndexOutOfBoundsException.class, () -> x.event(8, 0));
        Check.fails("i -1", IndexOutOfBoundsException.class, () -> x.event(-1, 0));
        Check.fails("i first", IndexOutOfBoundsException.class, () -> x.event(MOST, 9));
        Check.fails("what 7", IllegalArgumentException.class, () -> x.event(7, 7));
        Check.fails("what -1", IllegalArgumentException.class, () -> x.event(0, -1));
        OwnText full = Check.good("R 50{cdefga}");
        Check.same("EVENT 299", full.event(299, 4), 299 * 967680L);
        Check.fails("i 300", IndexOutOfBoundsException.class, () -> full.event(300, 0));
    }

    private static void pitches() {
        OwnText x = Check.good("<c e+' g--, a b++ d-'''''>1 r c--,,,,");
        int[][] due = {{0, 0, 4, 48}, {2, 1, 5, 65}, {4, -2, 3, 41}, {5, 0, 4, 57}, {6, 2, 4, 61},
            {1, -1, 9, 109}};
        for (int k = 0; k < due.length; k++) {
            for (int what = 0; what < 4; what++) {
                Check.same("pitch " + k + " " + what, x.pitch(0, k, what), due[k][what]);
            }
        }
        Check.same("below", x.pitch(2, 0, 3), -2);
        Check.fails("k 6", IndexOutOfBoundsException.class, () -> x.pitch(0, 6, 0));
        Check.fails("k -1", IndexOutOfBoundsException.class, () -> x.pitch(0, -1, 0));
        Check.fails("of a rest", IndexOutOfBoundsException.class, () -> x.pitch(1, 0, 9));
        Check.fails("i 3", IndexOutOfBoundsException.class, () -> x.pitch(3, 0, 0));
        Check.fails("i -1", IndexOutOfBoundsException.class, () -> x.pitch(-1, 0, 0));
        Check.fails("what 4", IllegalArgumentException.class, () -> x.pitch(0, 5, 4));
        Check.fails("what -1", IllegalArgumentException.class, () -> x.pitch(0, 0, -1));
        OwnText moved = Check.good("X 3 5{b1}");
        Check.same("moved letter", moved.pitch(0, 0, 0), 2);
        Check.same("moved octave", moved.pitch(0, 0, 2), 5);
        Check.same("moved half tones", moved.pitch(0, 0, 3), 64);
    }

    private static void words() {
        OwnText x = Check.good("c d e W 1 \"a{}/ _\" W 3 \"abcdefghijkl\"");
        Check.same("all bytes", Check.syllable(x, 0, 1), "a{}/");
        Check.same("12 bytes", Check.syllable(x, 0, 3), "abcdefghijkl");
        Check.same("byte 12", x.word(0, 3, 12), OwnText.NONE);
        Check.same("byte -1", x.word(0, 3, -1), OwnText.NONE);
        Check.same("far", x.word(0, 3, MOST) + x.word(0, 3, LEAST), 2 * OwnText.NONE);
        Check.same("_", x.word(1, 1, 0), OwnText.NONE);
        Check.same("none", x.word(2, 1, 0), OwnText.NONE);
        Check.fails("VERSE 0", IllegalArgumentException.class, () -> x.word(0, 0, 0));
        Check.fails("VERSE 4", IllegalArgumentException.class, () -> x.word(0, 4, 0));
        Check.fails("i ahead of VERSE", IndexOutOfBoundsException.class, () -> x.word(3, 4, 0));
        Check.fails("i -1", IndexOutOfBoundsException.class, () -> x.word(-1, 1, 0));
        // the tape is fed anew, the words stay
        Check.feed(x, "xxxxxxxxxxxxxxxxxxxxxxxxxxxxxxxxxxxxxxxxxx");
        Check.same("behind feed", Check.syllable(x, 0, 1), "a{}/");
        x.read();
        Check.same("behind a FAULT", Check.syllable(x, 0, 3), "abcdefghijkl");
    }

    private static void walking() {
        OwnText x = Check.good("c [d e / f8 g a2 / b] c [d / e]");
        StringBuilder s = new StringBuilder();
        for (int k = 0; k < x.count(0); k++) {
            s.append(x.walk(k)).append(' ');
        }
        // TIMES, in eighths: c 0; d 2, e 4, rest 6; f 2, g 3, a 4 to 8; b 2; c 8; d 10; e 10
        Check.same("VOICES", Check.events(x, 0), "0 0 0 1 1 1 2 0 0 0 3");
        Check.same("walk", s.toString(), "0 1 3 6 4 2 5 7 8 9 10 ");
        Check.fails("k 11", IndexOutOfBoundsException.class, () -> x.walk(11));
        Check.fails("k -1", IndexOutOfBoundsException.class, () -> x.walk(-1));
        Check.fails("k most", IndexOutOfBoundsException.class, () -> x.walk(MOST));
    }

    private static String bar(OwnText x, int b) {
        return x.bar(b, 0) + " " + x.bar(b, 1) + "/" + x.bar(b, 2) + " " + x.bar(b, 3);
    }

    private static void bars() {
        OwnText x = Check.good("c1 d2 [e2 / f4 g] M 3/4 M 6/8 c2. M 2/2 r1 r1 r:1 ");
        Check.same("BARS", x.count(6), 6);
        String[] due = {"0 4/4 1", "3870720 4/4 4", "7741440 6/8 1", "10644480 2/2 1",
            "14515200 2/2 1", "18385920 2/2 1"};
        for (int b = 0; b < due.length; b++) {
            Check.same("BAR " + b, bar(x, b), due[b]);
        }
        Check.fails("b 6", IndexOutOfBoundsException.class, () -> x.bar(6, 9));
        Check.fails("b -1", IndexOutOfBoundsException.class, () -> x.bar(-1, 0));
        Check.fails("what 4", IllegalArgumentException.class, () -> x.bar(5, 4));
        Check.fails("what -1", IllegalArgumentException.class, () -> x.bar(0, -1));
        Check.same("ends with a BAR", Check.good("c1 c1").count(6), 2);
        Check.same("a METER at the end", Check.good("c1 M 3/4").count(6), 1);
        Check.same("no EVENTS", Check.good("M 3/4").count(6), 0);
    }

    private static void manyBars() {
        OwnText x = Check.good("M 1/32 c:3870720000");
        Check.same("BARS", x.count(6), 32000);
        Check.same("first", bar(x, 0), "0 1/32 1");
        Check.same("last", bar(x, 31999), "3870599040 1/32 0");
        Check.fails("b", IndexOutOfBoundsException.class, () -> x.bar(32000, 0));
    }

    private static void sounding() {
        OwnText x = Check.good("c4 d8 [r / e2] T 3/2{f4}");
        Check.same("0", x.at(0, 0, 1), 0);
        Check.same("ahead of the end", x.at(0, 249999999, 1000000000), 0);
        Check.same("1 / 4", x.at(0, 1, 4), 1);
        Check.same("2 / 8", x.at(0, 2, 8), 1);
        Check.same("3 / 8", x.at(0, 3, 8), 2);
        Check.same("the rest behind", x.at(0, 1, 2), 4);
        Check.same("the other VOICE ahead", x.at(1, 1, 4), OwnText.NONE);
        Check.same("the other VOICE", x.at(1, 3, 8), 3);
        Check.same("the other VOICE behind", x.at(1, 7, 8), OwnText.NONE);
        Check.same("7 / 8", x.at(0, 7, 8), 5);
        Check.same("25 / 24", x.at(0, 25, 24), OwnText.NONE);
        Check.same("ahead of 25 / 24", x.at(0, 24999, 24000), 5);
        Check.same("below 0", x.at(0, -1, MOST), OwnText.NONE);
        Check.same("far", x.at(0, MOST, 1) + x.at(0, LEAST, 1), 2 * OwnText.NONE);
        Check.fails("VOICE 2", IndexOutOfBoundsException.class, () -> x.at(2, 0, 0));
        Check.fails("VOICE -1", IndexOutOfBoundsException.class, () -> x.at(-1, 0, -1));
        Check.fails("down 0", ArithmeticException.class, () -> x.at(0, 0, 0));
        Check.fails("down -1", IllegalArgumentException.class, () -> x.at(0, 0, -1));
        Check.fails("down least", IllegalArgumentException.class, () -> x.at(0, 0, LEAST));
        OwnText longest = Check.good("r:3870719000 c:1000");
        Check.same("the greatest numbers", longest.at(0, MOST, MOST), 0);
        Check.same("the last TICKS", longest.at(0, 2147482999, 2147483), 1);
        Check.same("the end", longest.at(0, 2147483000, 2147483), OwnText.NONE);
        Check.same("ahead of the last TICKS", longest.at(0, 2147481000, 2147483), 0);
    }
}
