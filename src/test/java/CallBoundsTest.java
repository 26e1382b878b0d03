import java.util.List;

/**
 * The boundary cases of the promises 1 to 13 themselves: too small, too large, empty, full, refused.
 * Each method is about one promise, and tells the words of its sentences.
 */
public final class CallBoundsTest {
    private static final int LEAST = Integer.MIN_VALUE;
    private static final int MOST = Integer.MAX_VALUE;
    private static final String LONGEST = "3870720000";
    private static final Class<IndexOutOfBoundsException> INDEX = IndexOutOfBoundsException.class;
    private static final Class<IllegalArgumentException> ARGUMENT = IllegalArgumentException.class;
    private static final Class<IllegalStateException> STATE = IllegalStateException.class;
    private static final Class<ArithmeticException> DIVISION = ArithmeticException.class;

    public static void main(String[] args) {
        newObject();
        feedNumbers();
        feedBytes();
        feedFull();
        readEmpty();
        readAgain();
        readFault();
        faultKinds();
        faultChangesNothing();
        throwChangesNothing();
        counts();
        countsWrong();
        events();
        eventsTogether();
        eventsWrong();
        pitches();
        pitchesWrong();
        words();
        wordsWrong();
        walks();
        walksWrong();
        bars();
        barsWrong();
        sounding();
        soundingFar();
        soundingWrong();
        writeVoices();
        writeEvents();
        writeVerses();
        printed();
        Check.done();
    }

    private static void newObject() {
        Check.sentence("As if a text without ITEMS had been read; an empty tape");
        OwnText x = new OwnText();
        OwnText y = new OwnText();
        Check.same("read", y.read(), 0);
        Check.same("answers", Snapshot.of(x), Snapshot.of(y));
        Check.same("answers", Snapshot.of(x), "0 1 0 0 0 1 0 ");
        Check.same("fault", x.fault(), 0);
        Check.same("at", x.at(0, 0, 1), OwnText.NONE);
        Check.same("printed", x.printed(0), OwnText.NONE);
        Check.same("write", x.write(), 0);
        Check.fails("event", INDEX, () -> x.event(0, 0));
        Check.fails("pitch", INDEX, () -> x.pitch(0, 0, 0));
        Check.fails("word", INDEX, () -> x.word(0, 1, 0));
        Check.fails("walk", INDEX, () -> x.walk(0));
        Check.fails("bar", INDEX, () -> x.bar(0, 0));
        Check.fails("at", INDEX, () -> x.at(1, 0, 1));
        Check.same("the tape", x.feed('c', 1), 1);
        Check.same("objects are apart", y.read(), 0);
    }

    private static void feedNumbers() {
        Check.sentence("IllegalArgumentException: n is not 1 .. 8");
        OwnText x = new OwnText();
        for (int n : new int[] {LEAST, -8, -1, 0, 9, 10, 1500, MOST}) {
            Check.fails("n " + n, ARGUMENT, () -> x.feed(0x63, n));
        }
        int fed = 0;
        for (int n = 1; n <= 8; n++) {
            fed += n;
            Check.same("n " + n, x.feed(0x2020202020202020L, n), fed);
        }
    }

    private static void feedBytes() {
        Check.sentence("The lowest n bytes of w, the highest of them first, come behind the tape: how many it has");
        OwnText x = new OwnText();
        for (int n = 1; n <= 8; n++) {
            Check.same("fed", x.feed(0x6364656667616272L, n), n);
            Check.same("read", x.read(), n);
            String all = "cdefgab";
            for (int k = 0; k < n - 1; k++) {
                Check.same("letter", x.pitch(k, 0, 0), all.indexOf(all.charAt(8 - n + k)));
            }
            Check.same("the last", x.event(n - 1, 1), 0);
        }
        // w below 0, and bytes of w beyond n
        Check.same("fed", x.feed(0xff63636363636364L, 7), 7);
        Check.same("read", x.read(), 7);
        Check.same("fed", x.feed(0xff63636363636364L, 8), 8);
        Check.same("read", x.read(), -1000);
        Check.same("fed", x.feed(0x63, 2), 2);
        Check.same("a byte 0 is one", x.read(), -1000);
        // one behind the other
        Check.same("fed", x.feed('c', 1), 1);
        Check.same("fed", x.feed(0x382e, 2), 3);
        Check.same("fed", x.feed('.', 1), 4);
        Check.same("read", x.read(), 1);
        Check.same("c8..", x.event(0, 5), 846720);
    }

    private static void feedFull() {
        Check.sentence("IllegalStateException: more than 1500");
        OwnText x = new OwnText();
        for (int k = 0; k < 187; k++) {
            x.feed(0x2020202020202020L, 8);
        }
        for (int n = 5; n <= 8; n++) {
            int size = n;
            Check.fails("1496 and " + n, STATE, () -> x.feed(0x7d7d7d7d7d7d7d7dL, size));
        }
        Check.same("1499", x.feed(0x202020, 3), 1499);
        Check.fails("1501", STATE, () -> x.feed(0x2020, 2));
        Check.same("1500", x.feed('c', 1), 1500);
        Check.fails("1501", STATE, () -> x.feed('c', 1));
        Check.fails("of several the first that the call names", ARGUMENT, () -> x.feed('c', 0));
        Check.fails("of several the first that the call names", ARGUMENT, () -> x.feed('c', 9));
        Check.same("nothing of what was refused", x.read(), 1);
        Check.same("empty then", x.feed('c', 1), 1);
    }

    private static void readEmpty() {
        Check.sentence("The tape is read and performed, and is empty then: how many EVENTS there are");
        OwnText x = new OwnText();
        Check.same("an empty tape", x.read(), 0);
        Check.same("one", Check.read(x, "c"), 1);
        Check.same("an empty tape", x.read(), 0);
        Check.same("300", Check.read(x, Check.times("r", 300)), 300);
        Check.same("fed anew", x.feed('c', 1), 1);
        Check.same("a FAULT", Check.read(x, "}"), -1001);
        Check.same("empty behind a FAULT", x.feed('c', 1), 1);
        Check.same("a FAULT of performing", Check.read(x, "|"), -1001);
        Check.same("empty behind a FAULT", x.read(), 0);
    }

    private static final String RICH = "=a{c} =b{d} M 6/8 [ / c2.] [c2.~ / <d f> / e [f / g]] c W 1 \"la\" W 3 \"_\" "
            + "M 2/4 L{b8 r <e g b>} X 1 2{f} T 3/2{c8}";

    private static void readAgain() {
        Check.sentence("(all that was is gone)");
        List<String> texts = List.of("", "c", "[c/d]", "c~ c W 2 \"x\"", "M 2/4 c2 |", "=z{c} $z", "r <c e>",
                Check.times("c", 300), "[" + Check.times("r/", 11) + "]", "R 39{c1 M 4/4}", RICH);
        OwnText x = new OwnText();
        for (String text : texts) {
            // twice: what a FAULT must leave may be held apart from what is made anew
            Check.read(x, RICH);
            Check.read(x, RICH);
            Check.read(x, text);
            OwnText y = Check.good(text);
            Check.same("answers of " + text, Snapshot.of(x), Snapshot.of(y));
            Check.same("form of " + text, Check.normalForm(x), Check.normalForm(y));
        }
    }

    private static void readFault() {
        Check.sentence("or -1000 less the PLACE of a FAULT");
        Check.faulty("}", 1, 0);
        Check.faulty("c}", 1, 1);
        Check.faulty(Check.times(" ", 1499) + "}", 1, 1499);
        Check.faulty("[" + Check.times(" ", 1499), 1, 1500);
        OwnText x = new OwnText();
        Check.same("0", Check.read(x, "}"), -1000);
        Check.same("1500", Check.read(x, "[" + Check.times(" ", 1499)), -2500);
    }

    /** One text for each KIND. */
    private static final String[] FAULTY = {"c }", "c3", "c''''''", "$a", "[[[[[[[[[", "c~", "c:1 |",
        "W 1\"a b c d e\""};

    private static void faultKinds() {
        Check.sentence("The KIND of the latest FAULT; 0 before one");
        OwnText x = new OwnText();
        Check.same("new", x.fault(), 0);
        Check.read(x, "c");
        Check.same("behind a good text", x.fault(), 0);
        Check.fails("a throw", ARGUMENT, () -> x.count(7));
        Check.same("a throw is none", x.fault(), 0);
        for (int kind = 1; kind <= 8; kind++) {
            Check.read(x, FAULTY[kind - 1]);
            Check.same(FAULTY[kind - 1], x.fault(), kind);
            Check.read(x, "c");
            Check.same("a good text leaves it", x.fault(), kind);
            Check.fails("a throw", INDEX, () -> x.event(1, 0));
            Check.same("a throw leaves it", x.fault(), kind);
        }
        Check.read(x, FAULTY[0]);
        Check.same("the latest, not the greatest", x.fault(), 1);
    }

    private static void faultChangesNothing() {
        Check.sentence("a FAULT changes nothing but the tape, and fault()");
        OwnText x = Check.good(RICH);
        x.write();
        String before = Snapshot.of(x) + Check.printedText(x);
        // each KIND, behind much that would have changed all of it
        String ahead = "=z{d} =y{e} M 5/8 c8 d W 2 \"do re\" r4. [<c e> / f] =x{g} r8 ";
        for (String text : FAULTY) {
            for (String head : List.of("", ahead)) {
                Check.same(text, Check.read(x, head + text) <= -1000 ? 1 : 0, 1);
                Check.same("behind " + text, Snapshot.of(x) + Check.printedText(x), before);
            }
        }
        Check.same("form", Check.normalForm(x), Check.normalForm(Check.good(RICH)));
    }

    private static void throwChangesNothing() {
        Check.sentence("What is thrown changes nothing");
        OwnText x = Check.good(RICH);
        x.write();
        x.feed('c', 1);
        String before = Snapshot.of(x) + Check.printedText(x);
        Check.fails("feed", ARGUMENT, () -> x.feed('d', 0));
        Check.fails("count", ARGUMENT, () -> x.count(7));
        Check.fails("event", INDEX, () -> x.event(MOST, 0));
        Check.fails("event", ARGUMENT, () -> x.event(0, 7));
        Check.fails("pitch", INDEX, () -> x.pitch(0, 6, 0));
        Check.fails("word", ARGUMENT, () -> x.word(0, 4, 0));
        Check.fails("walk", INDEX, () -> x.walk(-1));
        Check.fails("bar", INDEX, () -> x.bar(-1, 0));
        Check.fails("at", DIVISION, () -> x.at(0, 0, 0));
        Check.same("answers", Snapshot.of(x) + Check.printedText(x), before);
        Check.same("the tape", x.feed('d', 1), 2);
        Check.same("read", x.read(), 2);
    }

    private static void counts() {
        Check.sentence("How many: 0 EVENTS, 1 VOICES, 2 rests among EVENTS, 3 named MUSICS, 4 STEPS of the performing,"
                + " 5 METERS, 6 BARS that begin ahead of the end of VOICE 0");
        String[] texts = {"", "r", "[ / c]", "R 2{=a{c}}", "M 3/4 c1 r2", "c1", "c1 r:1", "r:3870719", "c1 M 3/4",
            "M 1/32 r:" + LONGEST, "[c / d1 d]", "M 32/1 c:" + LONGEST, "M 2/4 c2 M 3/4 c2. M 4/4 c1"};
        String[] due = {"0 1 0 0 0 1 0", "1 1 1 0 1 1 1", "2 2 1 0 2 1 1", "0 1 0 1 5 1 0", "2 1 1 0 3 1 2",
            "1 1 0 0 1 1 1", "2 1 1 0 2 1 2", "1 1 1 0 1 1 1", "1 1 0 0 2 2 1", "1 1 1 0 2 1 32000",
            "4 2 1 0 4 1 2", "1 1 0 0 2 1 32", "3 1 0 0 6 3 3"};
        for (int t = 0; t < texts.length; t++) {
            OwnText x = Check.good(texts[t]);
            StringBuilder s = new StringBuilder();
            for (int what = 0; what <= 6; what++) {
                s.append(what > 0 ? " " : "").append(x.count(what));
            }
            Check.same("counts of " + texts[t], s.toString(), due[t]);
        }
    }

    private static void countsWrong() {
        Check.sentence("count: IllegalArgumentException");
        OwnText x = Check.good("c");
        for (int what : new int[] {LEAST, -1, 7, 8, MOST}) {
            Check.fails("count " + what, ARGUMENT, () -> x.count(what));
        }
    }

    private static void events() {
        Check.sentence("Of EVENT i (from 0, as they came): 0 VOICE, 1 how many PITCHES, 2 whether it is TIED to the next"
                + " (1, 0), 3 whether the one ahead is to it, 4 its TIME, 5 LENGTH");
        OwnText x = Check.good("[<cdefga>:9 / r:20] c:5~ c");
        Check.same("VOICE", Check.events(x, 0), "0 1 0 0 0");
        Check.same("PITCHES", Check.events(x, 1), "6 0 0 1 1");
        Check.same("TIED", Check.events(x, 2), "0 0 0 1 0");
        Check.same("TIED to", Check.events(x, 3), "0 0 0 0 1");
        Check.same("TIME", Check.events(x, 4), "0 0 9 20 25");
        Check.same("LENGTH", Check.events(x, 5), "9 20 11 5 5");
        OwnText late = Check.good("r:3870719999 c:1");
        Check.same("the last TIME", late.event(1, 4), 3870719999L);
        Check.same("the greatest LENGTH", Check.good("c:" + LONGEST).event(0, 5), 3870720000L);
        OwnText voices = Check.good("[" + Check.times("/", 11) + "c]");
        Check.same("the last VOICE", voices.event(0, 0), 11);
        // the one ahead is that of its own VOICE
        OwnText apart = Check.good("[c:2~ / c:1~ c / r:1] c");
        Check.same("TIED", Check.events(apart, 2), "1 1 0 0 0");
        Check.same("TIED to", Check.events(apart, 3), "0 0 1 0 1");
    }

    private static void eventsTogether() {
        Check.sentence("6 the LENGTHS of it and of those to which it is TIED, one behind the other, together (0 if the"
                + " one ahead is to it)");
        Check.same("none", Check.events(Check.good("c:3 r:4 d"), 6), "3 4 4");
        Check.same("two", Check.events(Check.good("c:3~ c:4 c"), 6), "7 0 4");
        Check.same("three", Check.events(Check.good("c:3~ c:4~ c:5"), 6), "12 0 0");
        Check.same("one behind the other", Check.events(Check.good("c:1~ c c~ c"), 6), "2 0 2 0");
        Check.same("of its VOICE", Check.events(Check.good("c:1~ [c:14~ / c:7~ c / d:13~ d:1] c:4"), 6),
                "19 0 14 0 14 0 0");
        OwnText x = Check.good("R 50{R 5{c~}} R 49{c~} c");
        Check.same("300", x.event(0, 6), 300 * 967680L);
        Check.same("the last", x.event(299, 6), 0);
        Check.same("the greatest", Check.good("c:3870719999~ c:1").event(0, 6), 3870720000L);
    }

    private static void eventsWrong() {
        Check.sentence("event: IndexOutOfBoundsException: i; IllegalArgumentException");
        OwnText x = Check.good("c d");
        for (int i : new int[] {LEAST, -1, 2, 3, 300, MOST}) {
            Check.fails("i " + i, INDEX, () -> x.event(i, 0));
            Check.fails("of several the first, i " + i, INDEX, () -> x.event(i, 7));
        }
        for (int what : new int[] {LEAST, -1, 7, MOST}) {
            Check.fails("what " + what, ARGUMENT, () -> x.event(1, what));
        }
        OwnText full = Check.good(Check.times("c", 300));
        Check.same("299", full.event(299, 5), 967680);
        Check.fails("300", INDEX, () -> full.event(300, 0));
    }

    private static void pitches() {
        Check.sentence("Of PITCH k of EVENT i (moved by X): 0 its letter (c 0 .. b 6), 1 how many + (- below 0),"
                + " 2 octave, 3 half tones above c of octave 0");
        String letters = "cdefgab";
        int[] half = {0, 2, 4, 5, 7, 9, 11};
        for (int octave = 0; octave <= 9; octave++) {
            String marks = Check.times(octave < 4 ? "," : "'", Math.abs(octave - 4));
            for (int letter = 0; letter < 7; letter++) {
                for (int alter = -2; alter <= 2; alter++) {
                    String text = letters.charAt(letter) + Check.times(alter < 0 ? "-" : "+", Math.abs(alter)) + marks;
                    OwnText x = Check.good("<c" + Check.times(" d", 4) + " " + text + ">");
                    Check.same("letter of " + text, x.pitch(0, 5, 0), letter);
                    Check.same("+ of " + text, x.pitch(0, 5, 1), alter);
                    Check.same("octave of " + text, x.pitch(0, 5, 2), octave);
                    Check.same("half tones of " + text, x.pitch(0, 5, 3), 12 * octave + half[letter] + alter);
                }
            }
        }
        OwnText moved = Check.good("X -28 -50{c}");
        Check.same("moved", moved.pitch(0, 0, 3), -2);
    }

    private static void pitchesWrong() {
        Check.sentence("pitch: IndexOutOfBoundsException: i, k; IllegalArgumentException");
        OwnText x = Check.good("c r <cdefga>");
        for (int i : new int[] {LEAST, -1, 3, 300, MOST}) {
            Check.fails("i " + i, INDEX, () -> x.pitch(i, 0, 0));
            Check.fails("of several the first, i " + i, INDEX, () -> x.pitch(i, 0, 4));
        }
        for (int k : new int[] {LEAST, -1, 6, MOST}) {
            Check.fails("k " + k, INDEX, () -> x.pitch(2, k, 0));
            Check.fails("of several the first, k " + k, INDEX, () -> x.pitch(2, k, -1));
        }
        Check.fails("k 1 of a note", INDEX, () -> x.pitch(0, 1, 0));
        Check.fails("k 0 of a rest", INDEX, () -> x.pitch(1, 0, 0));
        for (int what : new int[] {LEAST, -1, 4, MOST}) {
            Check.fails("what " + what, ARGUMENT, () -> x.pitch(2, 5, what));
        }
    }

    private static void words() {
        Check.sentence("Byte k of the SYLLABLE of EVENT i in a VERSE (1 .. 3); NONE");
        OwnText x = Check.good("c~ c r d W 1 \"abcdefghijkl !\" W 3 \"_ ~\"");
        for (int k = 0; k < 12; k++) {
            Check.same("byte " + k, x.word(0, 1, k), 'a' + k);
        }
        for (int k : new int[] {LEAST, -1, 12, 13, MOST}) {
            Check.same("byte " + k, x.word(0, 1, k), OwnText.NONE);
            Check.same("byte " + k, x.word(3, 1, k), OwnText.NONE);
        }
        Check.same("33", x.word(3, 1, 0), 33);
        Check.same("behind it", x.word(3, 1, 1), OwnText.NONE);
        Check.same("126", x.word(3, 3, 0), 126);
        Check.same("_", x.word(0, 3, 0), OwnText.NONE);
        Check.same("none", x.word(0, 2, 0), OwnText.NONE);
        Check.same("tied to", x.word(1, 1, 0), OwnText.NONE);
        Check.same("a rest", x.word(2, 1, 0), OwnText.NONE);
    }

    private static void wordsWrong() {
        Check.sentence("word: IndexOutOfBoundsException: i; IllegalArgumentException: the VERSE");
        OwnText x = Check.good("c W 1 \"a\"");
        for (int i : new int[] {LEAST, -1, 1, 300, MOST}) {
            Check.fails("i " + i, INDEX, () -> x.word(i, 1, 0));
            Check.fails("of several the first, i " + i, INDEX, () -> x.word(i, 0, 0));
        }
        for (int verse : new int[] {LEAST, -1, 0, 4, MOST}) {
            Check.fails("VERSE " + verse, ARGUMENT, () -> x.word(0, verse, 0));
            Check.fails("VERSE " + verse, ARGUMENT, () -> x.word(0, verse, -1));
        }
    }

    private static String walk(OwnText x) {
        StringBuilder s = new StringBuilder();
        for (int k = 0; k < x.count(0); k++) {
            s.append(k > 0 ? " " : "").append(x.walk(k));
        }
        return s.toString();
    }

    private static void walks() {
        Check.sentence("The number of the EVENT at place k by TIMES, then VOICES, then numbers");
        Check.same("TIMES", walk(Check.good("[c c c / d8 d / e]")), "0 3 5 4 1 2");
        Check.same("VOICES", walk(Check.good("[c / [d / e] / f] [g / a]")), "0 1 2 3 4 5");
        Check.same("VOICES ahead of numbers", walk(Check.good("[ / c]")), "1 0");
        Check.same("VOICES ahead of numbers", walk(Check.good("c [ / c] d")), "0 2 1 3");
        Check.same("the last and the first", walk(Check.good("[r:2 / r:1 r / c:2]")), "0 1 3 2");
        OwnText x = Check.good("[" + Check.times("c8", 150) + "/" + Check.times("d8", 150) + "]");
        Check.same("0", x.walk(0), 0);
        Check.same("1", x.walk(1), 150);
        Check.same("298", x.walk(298), 149);
        Check.same("299", x.walk(299), 299);
    }

    private static void walksWrong() {
        Check.sentence("walk: IndexOutOfBoundsException");
        OwnText x = Check.good("c d");
        for (int k : new int[] {LEAST, -1, 2, 300, MOST}) {
            Check.fails("k " + k, INDEX, () -> x.walk(k));
        }
    }

    private static String bar(OwnText x, int b) {
        return x.bar(b, 0) + " " + x.bar(b, 1) + "/" + x.bar(b, 2) + " " + x.bar(b, 3);
    }

    private static void bars() {
        Check.sentence("Of BAR b (from 0, of those that count(6) counts): 0 its TIME, 1, 2 its METER's numbers, 3 how"
                + " many EVENTS begin in it");
        OwnText x = Check.good("M 1/32 c:120960 d:1 r:120959 M 2/1 e1 [f1 / g:1 a / b] M 2/8 c16");
        String[] due = {"0 1/32 1", "120960 1/32 2", "241920 2/1 5", "7983360 2/8 1"};
        Check.same("BARS", x.count(6), due.length);
        for (int b = 0; b < due.length; b++) {
            Check.same("BAR " + b, bar(x, b), due[b]);
        }
        // an EVENT that begins with the next BAR, or goes on from the one ahead
        OwnText y = Check.good("c1. c2 [c:3870719 r:1 / d2. e1]");
        Check.same("BAR 0", bar(y, 0), "0 4/4 1");
        Check.same("BAR 1", bar(y, 1), "3870720 4/4 1");
        Check.same("BAR 2", bar(y, 2), "7741440 4/4 4");
        Check.same("BAR 3", bar(y, 3), "11612160 4/4 1");
        Check.same("one BAR", bar(Check.good("r:1"), 0), "0 4/4 1");
        // as many METERS as can be, and BARS of the last one
        OwnText full = Check.good("R 38{c1 M 4/4} c1 M 3/4 r2. r2.");
        Check.same("METERS", full.count(5), 40);
        Check.same("BARS", full.count(6), 41);
        Check.same("BAR 38", bar(full, 38), "147087360 4/4 1");
        Check.same("BAR 39", bar(full, 39), "150958080 3/4 1");
        Check.same("BAR 40", bar(full, 40), "153861120 3/4 1");
        Check.same("300", bar(Check.good("M 32/1 " + Check.times("c64", 300)), 0), "0 32/1 300");
    }

    private static void barsWrong() {
        Check.sentence("bar: IndexOutOfBoundsException: b; IllegalArgumentException");
        OwnText x = Check.good("c1 c:1");
        for (int b : new int[] {LEAST, -1, 2, 3, MOST}) {
            Check.fails("b " + b, INDEX, () -> x.bar(b, 0));
            Check.fails("of several the first, b " + b, INDEX, () -> x.bar(b, 4));
        }
        for (int what : new int[] {LEAST, -1, 4, MOST}) {
            Check.fails("what " + what, ARGUMENT, () -> x.bar(1, what));
        }
        OwnText many = Check.good("M 1/32 r:" + LONGEST);
        Check.same("the last", bar(many, 31999), "3870599040 1/32 0");
        Check.fails("32000", INDEX, () -> many.bar(32000, 0));
        OwnText end = Check.good("c1 M 3/4");
        Check.fails("the METER at the end has none", INDEX, () -> end.bar(1, 0));
    }

    private static void sounding() {
        Check.sentence("The EVENT of a VOICE that has begun at up / down of a whole note, and not ended; NONE");
        OwnText x = Check.good("c4 d r8 [e / f4]");
        int[] due = {0, 0, 1, 1, 2, 3, 5};
        for (int eighth = 0; eighth < due.length; eighth++) {
            Check.same(eighth + " / 8", x.at(0, eighth, 8), due[eighth]);
            Check.same(2 * eighth + " / 16", x.at(0, 2 * eighth, 16), due[eighth]);
            Check.same("behind " + eighth + " / 8", x.at(0, 1000000 * eighth + 1, 8000000), due[eighth]);
            Check.same("ahead of " + eighth + " / 8", x.at(0, 1000000 * eighth - 1, 8000000),
                    eighth == 0 ? OwnText.NONE : due[eighth - 1]);
        }
        Check.same("the end", x.at(0, 7, 8), OwnText.NONE);
        Check.same("ahead of the end", x.at(0, 6999999, 8000000), 5);
        Check.same("a VOICE that has not begun", x.at(1, 4, 8), OwnText.NONE);
        Check.same("a VOICE that has not begun", x.at(1, 4999999, 8000000), OwnText.NONE);
        Check.same("a VOICE that begins", x.at(1, 5, 8), 4);
        Check.same("a VOICE that ends", x.at(1, 6999999, 8000000), 4);
        Check.same("a VOICE that has ended", x.at(1, 7, 8), OwnText.NONE);
        Check.same("a VOICE without EVENTS", Check.good("[c/]").at(1, 0, 1), OwnText.NONE);
        Check.same("no EVENTS", Check.good("").at(0, 0, 1), OwnText.NONE);
    }

    private static void soundingFar() {
        Check.sentence("at: up and down of any size");
        OwnText x = Check.good("r:3870719999 c:1");
        Check.same("below 0", x.at(0, -1, MOST), OwnText.NONE);
        Check.same("below 0", x.at(0, LEAST, 1), OwnText.NONE);
        Check.same("below 0", x.at(0, LEAST, MOST), OwnText.NONE);
        Check.same("0", x.at(0, 0, MOST), 0);
        Check.same("1", x.at(0, MOST, MOST), 0);
        Check.same("beyond", x.at(0, MOST, 1), OwnText.NONE);
        Check.same("the end", x.at(0, 1000, 1), OwnText.NONE);
        Check.same("the end", x.at(0, 2147483000, 2147483), OwnText.NONE);
        // a TICK is 1 / 3870720: the last one begins at 3870719999 / 3870720, and up can be 2147483647
        Check.same("ahead of the end", x.at(0, 2147482999, 2147483), 0);
        OwnText last = Check.good("r:3870718000 c:2000");
        Check.same("ahead of the last", last.at(0, 2147480000, 2147483), 0);
        Check.same("the last", last.at(0, 2147482999, 2147483), 1);
    }

    private static void soundingWrong() {
        Check.sentence("at: IndexOutOfBoundsException: the VOICE; ArithmeticException: down is 0;"
                + " IllegalArgumentException: down is below 0");
        OwnText x = Check.good("[c / d]");
        for (int voice : new int[] {LEAST, -1, 2, 12, MOST}) {
            for (int down : new int[] {LEAST, -1, 0, 1, MOST}) {
                Check.fails("VOICE " + voice, INDEX, () -> x.at(voice, 0, down));
            }
        }
        for (int up : new int[] {LEAST, -1, 0, 1, MOST}) {
            Check.fails("down 0", DIVISION, () -> x.at(1, up, 0));
            Check.fails("down -1", ARGUMENT, () -> x.at(1, up, -1));
            Check.fails("down least", ARGUMENT, () -> x.at(1, up, LEAST));
        }
    }

    private static void writeVoices() {
        Check.sentence("VOICES by numbers: with several of them \"[ \" ahead, \" / \" between, \" ]\" behind; of each,"
                + " with one blank between: if it begins behind TIME 0, r: and that TIME");
        Check.form("", "");
        Check.form("[c:1]", "c:1");
        Check.form("[/]", "[  /  ]");
        Check.form("[c:1/]", "[ c:1 /  ]");
        Check.form("[" + Check.times("/", 11) + "]", "[ " + Check.times(" / ", 11) + " ]");
        Check.form("c:1 [/]", "[ c:1 / r:1 ]");
        Check.form("r:1 [c / d]", "[ r:1 c:1 / r:1 d:1 ]");
        Check.form("c:" + LONGEST + " [/]", "[ c:" + LONGEST + " / r:" + LONGEST + " ]");
        Check.form("[c:1 [d/e] / f:3]", "[ c:1 d:1 r:1 / r:1 e:1 / f:3 ]");
    }

    private static void writeEvents() {
        Check.sentence("its EVENTS: r, a PITCH (letter, + or -, ' or , from octave 4 on), a CHORD < .. > with one blank"
                + " between PITCHES, : and its TICKS, ~ if it is TIED");
        Check.form("r64", "r:60480");
        Check.form("c1", "c:3870720");
        Check.form("c,,,,:1 b''''' g", "c,,,,:1 b''''':1 g:1");
        Check.form("a--,:1 e++' f+ d-", "a--,:1 e++':1 f+:1 d-:1");
        Check.form("<c>:1", "c:1");
        Check.form("<c,,,,  e+\nb--'>:7~<c,,,,e+b--'>", "<c,,,, e+ b--'>:7~ <c,,,, e+ b--'>:7");
        Check.form("<cdefga>:" + LONGEST, "<c d e f g a>:" + LONGEST);
        Check.form("X 1 1{L{b:1~ b}}", "c:1~ c:1");
    }

    private static void writeVerses() {
        Check.sentence("then for each VERSE, in order, of which some EVENT of it has a SYLLABLE with bytes: of those"
                + " EVENTS that may have one, from the first to the last that has one with bytes; without bytes: _");
        Check.form("c:1 W 1 \"_\"", "c:1");
        Check.form("c:1 W 1 \"a\"", "c:1 W 1 \"a\"");
        Check.form("c:1 d e W 2 \"_ a _\"", "c:1 d:1 e:1 W 2 \"_ a\"");
        Check.form("c:1 d W 3 \"c\" W 2 \"_ b\" W 1 \"a\"", "c:1 d:1 W 1 \"a\" W 2 \"_ b\" W 3 \"c\"");
        Check.form("r:1 c~ c r d W 1 \"_ a\"", "r:1 c:1~ c:1 r:1 d:1 W 1 \"_ a\"");
        Check.form("[c:1 W 1 \"_\" / d:1 W 1 \"a\"]", "[ c:1 / d:1 W 1 \"a\" ]");
        Check.form("c:1 W 1 \"abcdefghijkl\"", "c:1 W 1 \"abcdefghijkl\"");
        Check.form("c:1 W 1 \"__\"", "c:1 W 1 \"__\"");
        Check.form("r:5 [ / c W 1 \"a\"]", "[ r:5 r:5 / r:5 c:5 W 1 \"a\" ]");
    }

    private static void printed() {
        Check.sentence("Byte i of what was printed last; NONE");
        OwnText x = Check.good("c:1");
        Check.same("ahead of a write", x.printed(0), OwnText.NONE);
        Check.same("write", x.write(), 3);
        Check.same("0", x.printed(0), 'c');
        Check.same("2", x.printed(2), '1');
        for (int i : new int[] {LEAST, -1, 3, 4, MOST}) {
            Check.same("i " + i, x.printed(i), OwnText.NONE);
        }
        Check.read(x, "d:22 e");
        Check.same("printed, not read, last", Check.printedText(x), "c:1");
        Check.same("write", x.write(), 9);
        Check.same("printed", Check.printedText(x), "d:22 e:22");
        Check.read(x, "f:1");
        Check.same("a shorter one", x.write(), 3);
        Check.same("nothing of the longer one", Check.printedText(x), "f:1");
        Check.read(x, "");
        Check.same("none", x.write(), 0);
        Check.same("nothing", x.printed(0), OwnText.NONE);
    }
}
