import java.util.Arrays;

/**
 * A text form of music: fed as bytes, read, performed into EVENTS, asked for, and written in one
 * normal form. The words in capitals are those of the document.
 */
public final class OwnText {
    public static final int NONE = -1;

    private static final int TAPE_MOST = 1500;
    private static final int OPEN_MOST = 8;
    private static final int NAMES_MOST = 20;
    private static final int PARAMETERS_MOST = 4;
    private static final int PITCHES_MOST = 6;
    private static final int STEPS_MOST = 3000;
    private static final int EVENTS_MOST = 300;
    private static final int VOICES_MOST = 12;
    private static final int METERS_MOST = 40;
    private static final int TUPLETS_MOST = 8;
    private static final int USES_MOST = 24;
    private static final int VERSES = 3;
    private static final int HIGHEST_OCTAVE = 9;
    private static final int MIDDLE_OCTAVE = 4;
    private static final int LETTERS = 7;
    private static final int ALTER_MOST = 2;
    private static final int ALTERS = 2 * ALTER_MOST + 1;
    private static final long WHOLE = 3870720L;
    private static final long TICKS_MOST = 3870720000L;
    private static final int[] HALF_TONES = {0, 2, 4, 5, 7, 9, 11};

    private final byte[] tape;
    private int fed;
    private final Fault trouble;
    private final Program program;
    private final Reader reader;
    private final Performer performer;
    private final Printer printer;
    private Score score;
    // A FAULT must leave the score as it was: each text is performed into this one first.
    private Score draft;

    public OwnText() {
        tape = new byte[TAPE_MOST];
        fed = 0;
        trouble = new Fault();
        program = new Program();
        reader = new Reader(program, trouble);
        performer = new Performer(program, trouble);
        printer = new Printer();
        score = new Score();
        draft = new Score();
    }

    public int feed(long w, int n) throws IllegalArgumentException, IllegalStateException {
        if (n < 1 || n > 8) {
            throw new IllegalArgumentException("n is not 1 .. 8");
        }
        if (fed + n > TAPE_MOST) {
            throw new IllegalStateException("the tape is full");
        }
        for (int k = n - 1; k >= 0; k--) {
            tape[fed] = (byte) (w >>> (8 * k));
            fed++;
        }
        return fed;
    }

    public int read() {
        int length = fed;
        fed = 0;
        draft.clear(tape, length);
        program.clear(draft.text, length);
        if (!reader.readText() || !performer.perform(draft)) {
            return -1000 - trouble.place;
        }
        Score old = score;
        score = draft;
        draft = old;
        return score.events;
    }

    public int fault() {
        return trouble.kind;
    }

    public int count(int what) throws IllegalArgumentException {
        switch (what) {
            case 0: return score.events;
            case 1: return score.voiceCount;
            case 2: return score.countRests();
            case 3: return score.names;
            case 4: return score.steps;
            case 5: return score.meters.size;
            case 6: return score.meters.barsAhead(score.end);
            default: throw new IllegalArgumentException("no such number");
        }
    }

    public long event(int i, int what) throws IndexOutOfBoundsException, IllegalArgumentException {
        requireEvent(i);
        switch (what) {
            case 0: return score.voiceOf[i];
            case 1: return score.pitchesIn(i);
            case 2: return score.tied[i] ? 1 : 0;
            case 3: return score.continued[i] ? 1 : 0;
            case 4: return score.times[i];
            case 5: return score.lengths[i];
            case 6: return score.tiedLength(i);
            default: throw new IllegalArgumentException("no such number");
        }
    }

    public int pitch(int i, int k, int what)
            throws IndexOutOfBoundsException, IllegalArgumentException {
        requireEvent(i);
        if (k < 0 || k >= score.pitchesIn(i)) {
            throw new IndexOutOfBoundsException("no such PITCH");
        }
        int code = score.codeOf(i, k);
        switch (what) {
            case 0: return Pitches.letter(code);
            case 1: return Pitches.alter(code);
            case 2: return Pitches.octave(code);
            case 3: return Pitches.halfTones(Pitches.step(code)) + Pitches.alter(code);
            default: throw new IllegalArgumentException("no such number");
        }
    }

    public int word(int i, int verse, int k)
            throws IndexOutOfBoundsException, IllegalArgumentException {
        requireEvent(i);
        if (verse < 1 || verse > VERSES) {
            throw new IllegalArgumentException("no such VERSE");
        }
        return score.syllableByte(i, verse, k);
    }

    public int walk(int k) throws IndexOutOfBoundsException {
        requireEvent(k);
        return score.order[k];
    }

    public long bar(int b, int what) throws IndexOutOfBoundsException, IllegalArgumentException {
        Meters meters = score.meters;
        if (b < 0 || b >= meters.barsAhead(score.end)) {
            throw new IndexOutOfBoundsException("no such BAR");
        }
        int meter = meters.meterOfBar(b);
        long begin = meters.beginOfBar(b);
        switch (what) {
            case 0: return begin;
            case 1: return meters.ups[meter];
            case 2: return meters.downs[meter];
            case 3: return score.countBegun(begin, begin + meters.barTicks(meter));
            default: throw new IllegalArgumentException("no such number");
        }
    }

    public int at(int voice, int up, int down)
            throws IndexOutOfBoundsException, ArithmeticException, IllegalArgumentException {
        if (voice < 0 || voice >= score.voiceCount) {
            throw new IndexOutOfBoundsException("no such VOICE");
        }
        if (down == 0) {
            throw new ArithmeticException("down is 0");
        }
        if (down < 0) {
            throw new IllegalArgumentException("down is below 0");
        }
        return score.sounding(voice, up * WHOLE, down);
    }

    public int write() {
        return printer.print(score);
    }

    public int printed(int i) {
        return printer.byteAt(i);
    }

    private void requireEvent(int i) {
        if (i < 0 || i >= score.events || i >= EVENTS_MOST) {
            throw new IndexOutOfBoundsException("no such EVENT");
        }
    }

    /** The latest FAULT. */
    private static final class Fault {
        private int kind;
        private int place;

        /** Always false, so that a method can end with it. */
        boolean tell(int newKind, int newPlace) {
            kind = newKind;
            place = newPlace;
            return false;
        }
    }

    /**
     * PITCHES as numbers. A step is a letter and an octave (7 steps each); a code is a step with its
     * + or -; the PITCHES of an EVENT are one long: how many, then up to six codes of nine bits, so
     * that two EVENTS have the very same PITCHES where the longs are equal.
     */
    private static final class Pitches {
        private static final int COUNT_BITS = 3;
        private static final int CODE_BITS = 9;

        static int code(int step, int alter) {
            return step * ALTERS + alter + ALTER_MOST;
        }

        static int step(int code) {
            return code / ALTERS;
        }

        static int alter(int code) {
            return code % ALTERS - ALTER_MOST;
        }

        static int letter(int code) {
            return step(code) % LETTERS;
        }

        static int octave(int code) {
            return step(code) / LETTERS;
        }

        /** From c of octave 0 up to a step without + or -. */
        static int halfTones(int step) {
            return Math.floorDiv(step, LETTERS) * 12 + HALF_TONES[Math.floorMod(step, LETTERS)];
        }

        static int size(long pitches) {
            return (int) (pitches & ((1 << COUNT_BITS) - 1));
        }

        static long with(long pitches, int k, int code) {
            return pitches | (long) code << (COUNT_BITS + CODE_BITS * k);
        }

        static int get(long pitches, int k) {
            return (int) (pitches >>> (COUNT_BITS + CODE_BITS * k)) & ((1 << CODE_BITS) - 1);
        }
    }

    /**
     * What reading leaves for performing: the ITEMS in the order of the text, each ahead of those it
     * holds. Each BLOCK given behind a $, and each MUSIC of a [, is an entry of its own here.
     */
    private static final class Program {
        // Each entry has a byte of its own but the first MUSIC of a [, of which eight may be open.
        private static final int ENTRIES_MOST = TAPE_MOST + OPEN_MOST;

        private byte[] text;
        private int length;
        private int entries;
        private final int[] places;
        private final int[] behinds;
        private final int[] ones;
        private final int[] twos;
        private final long[] ticks;
        private final int[] firstParts;
        // PITCHES of notes and CHORDS as written, and SYLLABLES
        private final int[] parts;
        private int partCount;
        private int named;
        private final int[] names;
        private final int[] namedEntries;
        private final int[] parameterCounts;

        Program() {
            text = new byte[0];
            places = new int[ENTRIES_MOST];
            behinds = new int[ENTRIES_MOST];
            ones = new int[ENTRIES_MOST];
            twos = new int[ENTRIES_MOST];
            ticks = new long[ENTRIES_MOST];
            firstParts = new int[ENTRIES_MOST];
            parts = new int[TAPE_MOST];
            names = new int[NAMES_MOST];
            namedEntries = new int[NAMES_MOST];
            parameterCounts = new int[NAMES_MOST];
        }

        void clear(byte[] newText, int newLength) {
            text = newText;
            length = newLength;
            entries = 0;
            partCount = 0;
            named = 0;
        }

        /** NONE at the end of the text. */
        int byteAt(int place) {
            boolean within = place >= 0 && place < length && place < text.length;
            return within ? text[place] & 255 : NONE;
        }

        private boolean holds(int entry) {
            return entry >= 0 && entry < entries && entry < ENTRIES_MOST;
        }

        int open(int place) {
            int entry = entries;
            if (entry < ENTRIES_MOST) {
                entries++;
                places[entry] = place;
                behinds[entry] = entries;
                ones[entry] = 0;
                twos[entry] = 0;
                ticks[entry] = 0;
                firstParts[entry] = partCount;
            }
            return entry;
        }

        void close(int entry) {
            if (holds(entry)) {
                behinds[entry] = entries;
            }
        }

        void setNumbers(int entry, int one, int two) {
            if (holds(entry)) {
                ones[entry] = one;
                twos[entry] = two;
            }
        }

        void setTicks(int entry, long told) {
            if (holds(entry)) {
                ticks[entry] = told;
            }
        }

        void addPart(int part) {
            if (partCount < TAPE_MOST) {
                parts[partCount] = part;
                partCount++;
            }
        }

        void addName(int name, int entry, int parameters) {
            if (named < NAMES_MOST) {
                names[named] = name;
                namedEntries[named] = entry;
                parameterCounts[named] = parameters;
                named++;
            }
        }

        int indexOfName(int name) {
            for (int d = 0; d < named; d++) {
                if (names[d] == name) {
                    return d;
                }
            }
            return NONE;
        }

        int placeOf(int entry) {
            return holds(entry) ? places[entry] : 0;
        }

        /** The byte that an ITEM begins with tells what it is. */
        int kindOf(int entry) {
            return holds(entry) ? byteAt(places[entry]) : NONE;
        }

        int behind(int entry) {
            return holds(entry) ? behinds[entry] : entries;
        }

        int one(int entry) {
            return holds(entry) ? ones[entry] : 0;
        }

        int two(int entry) {
            return holds(entry) ? twos[entry] : 0;
        }

        long ticksOf(int entry) {
            return holds(entry) ? ticks[entry] : 0;
        }

        int partOf(int entry, int k) {
            int at = holds(entry) ? firstParts[entry] + k : NONE;
            return at >= 0 && at < partCount ? parts[at] : 0;
        }

        int namedEntry(int d) {
            return d >= 0 && d < named ? namedEntries[d] : NONE;
        }

        int parametersOf(int d) {
            return d >= 0 && d < named ? parameterCounts[d] : 0;
        }
    }

    /** A SYLLABLE as one number: its place in the text, and how many bytes it has. */
    private static final class Syllables {
        private static final int LENGTH_BITS = 4;

        static int make(int place, int length) {
            return place << LENGTH_BITS | length;
        }

        static int place(int syllable) {
            return syllable >> LENGTH_BITS;
        }

        static int length(int syllable) {
            return syllable == NONE ? 0 : syllable & ((1 << LENGTH_BITS) - 1);
        }
    }

    /** A PITCH as it is written, as one number: letter, + or -, ' or , . */
    private static final class Written {
        private static final int SHIFT_MOST = 9;

        static int make(int letter, int alter, int shift) {
            return ((shift + SHIFT_MOST) * ALTERS + alter + ALTER_MOST) * LETTERS + letter;
        }

        static int letter(int written) {
            return written % LETTERS;
        }

        static int alter(int written) {
            return written / LETTERS % ALTERS - ALTER_MOST;
        }

        static int shift(int written) {
            return written / (LETTERS * ALTERS) - SHIFT_MOST;
        }
    }

    /** Reads the whole text into a Program, or tells its first FAULT from the left. */
    private static final class Reader {
        private static final String ITEM_BEGINS = "abcdefgr<|MLRTX[W=$";
        private static final int NAME_MOST = 6;
        private static final int SYLLABLE_MOST = 12;

        private final Program program;
        private final Fault fault;
        private int pos;
        private int open;
        private boolean inNamed;
        private final int[] parameters;
        private int parameterCount;
        // what number() and its like found last
        private long value;
        private int valuePlace;
        // what findName() found last
        private int name;
        private int namePlace;

        Reader(Program program, Fault fault) {
            this.program = program;
            this.fault = fault;
            parameters = new int[PARAMETERS_MOST];
        }

        boolean readText() {
            pos = 0;
            open = 0;
            inNamed = false;
            parameterCount = 0;
            return music() && (next() == NONE || refuse());
        }

        private boolean refuse() {
            return fault.tell(1, pos);
        }

        /** NONE at the end of the text. */
        private int next() {
            boolean within = pos >= 0 && pos < program.length && pos < program.text.length;
            return within ? program.text[pos] & 255 : NONE;
        }

        private boolean take(int b) {
            if (next() != b) {
                return false;
            }
            pos++;
            return true;
        }

        private boolean must(int b) {
            return take(b) || refuse();
        }

        private boolean mustBehindBlanks(int b) {
            skipBlanks();
            return must(b);
        }

        private void skipBlanks() {
            boolean remark = false;
            for (; pos < program.length; pos++) {
                int b = next();
                if (b == '%') {
                    remark = true;
                } else if (b == '\n') {
                    remark = false;
                } else if (b != ' ' && !remark) {
                    return;
                }
            }
        }

        private static boolean isDigit(int b) {
            return b >= '0' && b <= '9';
        }

        private static boolean isPitchLetter(int b) {
            return b >= 'a' && b <= 'g';
        }

        private static boolean isNameLetter(int b) {
            return b >= 'a' && b <= 'z';
        }

        /** Ends ahead of the first byte that begins no ITEM; the caller knows what may stand there. */
        private boolean music() {
            for (int n = 0; n <= TAPE_MOST; n++) {
                skipBlanks();
                int b = next();
                if (b == NONE || ITEM_BEGINS.indexOf((char) b) < 0) {
                    return true;
                }
                int entry = program.open(pos);
                boolean good;
                switch (b) {
                    case '[': good = voices(); break;
                    case '=': good = naming(entry); break;
                    case '$': good = use(entry); break;
                    case 'W': good = words(entry); break;
                    case 'M': good = meter(entry); break;
                    case 'L': good = relative(); break;
                    case 'R': good = rounds(entry); break;
                    case 'T': good = tuplet(entry); break;
                    case 'X': good = moving(entry); break;
                    case '|': good = take('|'); break;
                    default: good = sound(entry); break;
                }
                if (!good) {
                    return false;
                }
                program.close(entry);
            }
            return true;
        }

        private boolean block() {
            skipBlanks();
            if (next() != '{') {
                return refuse();
            }
            if (open >= OPEN_MOST) {
                return fault.tell(5, pos);
            }
            open++;
            pos++;
            if (!music() || !must('}')) {
                return false;
            }
            open--;
            return true;
        }

        private boolean voices() {
            if (open >= OPEN_MOST) {
                return fault.tell(5, pos);
            }
            open++;
            for (int n = 0; n <= TAPE_MOST; n++) {
                int entry = program.open(pos);
                pos++;
                if (!music()) {
                    return false;
                }
                program.close(entry);
                if (take(']')) {
                    open--;
                    return true;
                }
                if (next() != '/') {
                    return refuse();
                }
            }
            return refuse();
        }

        private boolean relative() {
            pos++;
            return block();
        }

        private boolean rounds(int entry) {
            pos++;
            if (!number(0, 50)) {
                return false;
            }
            program.setNumbers(entry, (int) value, 0);
            return block();
        }

        private boolean tuplet(int entry) {
            pos++;
            if (!number(1, 9)) {
                return false;
            }
            int one = (int) value;
            if (!mustBehindBlanks('/') || !number(1, 9)) {
                return false;
            }
            program.setNumbers(entry, one, (int) value);
            return block();
        }

        private boolean moving(int entry) {
            pos++;
            if (!signed()) {
                return false;
            }
            int one = (int) value;
            if (!signed()) {
                return false;
            }
            program.setNumbers(entry, one, (int) value);
            return block();
        }

        private boolean meter(int entry) {
            pos++;
            if (!number(1, 32)) {
                return false;
            }
            int one = (int) value;
            if (!mustBehindBlanks('/') || !number(1, 32) || !powerOfTwo()) {
                return false;
            }
            program.setNumbers(entry, one, (int) value);
            return true;
        }

        private boolean digits(int most) {
            valuePlace = pos;
            value = 0;
            for (; pos < program.length && isDigit(next()); pos++) {
                if (pos - valuePlace < most) {
                    value = value * 10 + (next() - '0');
                }
            }
            if (pos == valuePlace) {
                return refuse();
            }
            return pos - valuePlace <= most || refuseNumber();
        }

        private boolean refuseNumber() {
            return fault.tell(2, valuePlace);
        }

        private boolean inRange(long low, long high) {
            return value >= low && value <= high || refuseNumber();
        }

        private boolean powerOfTwo() {
            return (value & (value - 1)) == 0 || refuseNumber();
        }

        private boolean number(int low, int high) {
            skipBlanks();
            return digits(3) && inRange(low, high);
        }

        private boolean signed() {
            skipBlanks();
            boolean below = take('-');
            if (!digits(2)) {
                return false;
            }
            if (below) {
                value = -value;
            }
            return true;
        }

        private boolean sound(int entry) {
            int before = program.partCount;
            boolean rest = take('r');
            if (!rest && !(take('<') ? chord() : written())) {
                return false;
            }
            if (!length(entry)) {
                return false;
            }
            boolean tie = !rest && take('~');
            program.setNumbers(entry, tie ? 1 : 0, program.partCount - before);
            return true;
        }

        private boolean chord() {
            for (int n = 0; n <= PITCHES_MOST; n++) {
                skipBlanks();
                if (n > 0 && take('>')) {
                    return true;
                }
                if (n == PITCHES_MOST && isPitchLetter(next())) {
                    return fault.tell(5, pos);
                }
                if (!written()) {
                    return false;
                }
            }
            return refuse();
        }

        /** A PITCH. */
        private boolean written() {
            int b = next();
            if (!isPitchLetter(b)) {
                return refuse();
            }
            pos++;
            int alter = marks('+', ALTER_MOST);
            if (alter == 0) {
                alter = -marks('-', ALTER_MOST);
            }
            int shift = marks('\'', Written.SHIFT_MOST);
            if (shift == 0) {
                shift = -marks(',', Written.SHIFT_MOST);
            }
            // the letters are counted from c, so a and b come behind g
            int letter = (b - 'a' + 5) % LETTERS;
            program.addPart(Written.make(letter, alter, shift));
            return true;
        }

        /** The one too many is left: no ITEM begins with it, so that it is refused there. */
        private int marks(int b, int most) {
            int n = 0;
            while (n < most && next() == b) {
                pos++;
                n++;
            }
            return n;
        }

        private boolean length(int entry) {
            if (take(':')) {
                if (!digits(10) || !inRange(1, TICKS_MOST)) {
                    return false;
                }
                program.setTicks(entry, value);
                return true;
            }
            if (!isDigit(next())) {
                return true;
            }
            if (!digits(3) || !inRange(1, 64) || !powerOfTwo()) {
                return false;
            }
            long plain = value < 1 ? WHOLE : WHOLE / value;
            int dots = marks('.', 3);
            program.setTicks(entry, 2 * plain - (plain >> dots));
            return true;
        }

        private boolean words(int entry) {
            pos++;
            if (!number(1, VERSES)) {
                return false;
            }
            int verse = (int) value;
            int before = program.partCount;
            if (!mustBehindBlanks('"')) {
                return false;
            }
            for (int n = 0; n <= TAPE_MOST; n++) {
                skipSpaces();
                if (take('"')) {
                    program.setNumbers(entry, verse, program.partCount - before);
                    return true;
                }
                if (!syllable()) {
                    return false;
                }
            }
            return refuse();
        }

        private void skipSpaces() {
            while (pos < program.length && (next() == ' ' || next() == '\n')) {
                pos++;
            }
        }

        private static boolean isSyllableByte(int b) {
            return b >= 33 && b <= 126 && b != '"';
        }

        private boolean syllable() {
            int place = pos;
            while (pos < program.length && isSyllableByte(next())) {
                pos++;
            }
            int size = pos - place;
            if (size == 0) {
                return refuse();
            }
            if (size > SYLLABLE_MOST) {
                return fault.tell(5, place);
            }
            boolean bare = size == 1 && program.byteAt(place) == '_';
            program.addPart(Syllables.make(place, bare ? 0 : size));
            return true;
        }

        /** A NAME as one number, five bits a letter; NONE if it is too long. */
        private boolean findName() {
            skipBlanks();
            namePlace = pos;
            name = 0;
            for (; pos < program.length && isNameLetter(next()); pos++) {
                boolean fits = pos - namePlace < NAME_MOST;
                name = fits ? name << 5 | next() - 'a' + 1 : NONE;
            }
            return pos > namePlace || refuse();
        }

        private int indexOfParameter() {
            for (int k = 0; k < parameterCount; k++) {
                if (parameters[k] == name) {
                    return k;
                }
            }
            return NONE;
        }

        private boolean naming(int entry) {
            if (inNamed) {
                return refuse();
            }
            if (program.named >= NAMES_MOST) {
                return fault.tell(5, pos);
            }
            pos++;
            parameterCount = 0;
            if (!findName() || !newName(NONE, false)) {
                return false;
            }
            int own = name;
            if (!findParameters(own)) {
                return false;
            }
            inNamed = true;
            if (!block()) {
                return false;
            }
            inNamed = false;
            program.addName(own, entry, parameterCount);
            parameterCount = 0;
            return true;
        }

        private boolean findParameters(int own) {
            for (int n = 0; n <= PARAMETERS_MOST; n++) {
                skipBlanks();
                if (!isNameLetter(next())) {
                    return true;
                }
                if (!findName() || !newName(own, n == PARAMETERS_MOST)) {
                    return false;
                }
                if (n < PARAMETERS_MOST) {
                    parameters[n] = name;
                    parameterCount = n + 1;
                }
            }
            return refuse();
        }

        private boolean newName(int own, boolean tooMany) {
            boolean tooLong = name == NONE;
            boolean taken = name == own || program.indexOfName(name) != NONE || indexOfParameter() != NONE;
            if (taken && !tooLong) {
                return fault.tell(4, namePlace);
            }
            return !tooLong && !tooMany || fault.tell(5, namePlace);
        }

        private boolean use(int entry) {
            pos++;
            if (!findName()) {
                return false;
            }
            int parameter = indexOfParameter();
            if (parameter != NONE) {
                program.setNumbers(entry, parameter, 1);
                return true;
            }
            int d = program.indexOfName(name);
            if (d == NONE) {
                return fault.tell(4, namePlace);
            }
            program.setNumbers(entry, d, 0);
            int blocks = Math.min(program.parametersOf(d), PARAMETERS_MOST);
            for (int k = 0; k < blocks; k++) {
                int given = program.open(pos);
                if (!block()) {
                    return false;
                }
                program.close(given);
            }
            return true;
        }
    }

    /** A BLOCK or a [ that is open in the performing, with what its end puts back. */
    private static final class Frame {
        private int entry;
        private int cursor;
        private int limit;
        private int rounds;
        private int lastPitch;
        private int holder;
        private long up;
        private long down;
        private int voice;
        private long time;
        private long length;
        // of a [: how its first MUSIC ended (NONE: it is still performed), and the greatest TIME
        private long firstEnd;
        private long firstLength;
        private int firstLastPitch;
        private long latestEnd;
    }

    /**
     * Performs a Program. The open BLOCKS stand on a stack of its own, for there may be eight of
     * them in each of 25 texts that use one another: too deep for calls.
     */
    private static final class Performer {
        private static final int FRAMES_MOST = (USES_MOST + 1) * OPEN_MOST + 1;
        // Each turn begins an ITEM, a round or a MUSIC, or ends what one STEP has opened.
        private static final int TURNS_MOST = 4 * STEPS_MOST;
        private static final long QUARTER = WHOLE / 4;
        private static final int MIDDLE_C = MIDDLE_OCTAVE * LETTERS;

        private final Program program;
        private final Fault fault;
        private final Frame[] frames;
        private int depth;
        private Score score;
        private int steps;
        private int voice;
        private long time;
        private long length;
        private int lastPitch;
        private int relatives;
        private int tuplets;
        private long up;
        private long down;
        private int moveLetters;
        private int moveHalfTones;
        private int uses;
        private int brackets;
        // the frame of the $ whose BLOCKS the PARAMETERS stand for
        private int holder;

        Performer(Program program, Fault fault) {
            this.program = program;
            this.fault = fault;
            frames = new Frame[FRAMES_MOST];
            score = null;
        }

        boolean perform(Score into) {
            score = into;
            reset();
            if (into == null || push(NONE, 0, program.entries) == null) {
                return fault.tell(5, 0);
            }
            for (int turn = 0; turn < TURNS_MOST; turn++) {
                Frame frame = frameAt(depth - 1);
                if (frame == null) {
                    return finish();
                }
                if (frame.cursor < frame.limit) {
                    int entry = frame.cursor;
                    frame.cursor = program.behind(entry);
                    if (!step(entry) || !begin(entry)) {
                        return false;
                    }
                } else if (!end(frame)) {
                    return false;
                }
            }
            return fault.tell(5, 0);
        }

        private void reset() {
            depth = 0;
            steps = 0;
            voice = 0;
            time = 0;
            length = QUARTER;
            lastPitch = MIDDLE_C;
            relatives = 0;
            tuplets = 0;
            up = 1;
            down = 1;
            moveLetters = 0;
            moveHalfTones = 0;
            uses = 0;
            brackets = 0;
            holder = NONE;
        }

        private boolean finish() {
            if (!endVoice()) {
                return false;
            }
            score.end = time;
            score.steps = steps;
            score.names = program.named;
            score.sortByTime();
            return true;
        }

        private boolean tell(int kind, int entry) {
            return fault.tell(kind, program.placeOf(entry));
        }

        private Frame frameAt(int i) {
            return i >= 0 && i < depth && i < FRAMES_MOST ? frames[i] : null;
        }

        /** Null where there is no room. */
        private Frame push(int entry, int cursor, int limit) {
            if (depth >= FRAMES_MOST) {
                return null;
            }
            Frame frame = frames[depth];
            if (frame == null) {
                frame = new Frame();
                frames[depth] = frame;
            }
            depth++;
            frame.entry = entry;
            frame.cursor = cursor;
            frame.limit = limit;
            return frame;
        }

        private boolean step(int entry) {
            if (steps >= STEPS_MOST) {
                return tell(5, entry);
            }
            steps++;
            return true;
        }

        private boolean begin(int entry) {
            switch (program.kindOf(entry)) {
                case '=': return true;
                case '|': return score.meters.beginsBar(time) || tell(7, entry);
                case 'M': return changeMeter(entry);
                case 'W': return sing(entry);
                case '$': return use(entry);
                case '[': return openVoices(entry);
                case 'L':
                case 'R':
                case 'T':
                case 'X': return openBlock(entry);
                default: return sound(entry);
            }
        }

        private boolean openBlock(int entry) {
            int kind = program.kindOf(entry);
            if (kind == 'T' && tuplets >= TUPLETS_MOST) {
                return tell(5, entry);
            }
            Frame frame = push(entry, entry + 1, program.behind(entry));
            if (frame == null) {
                return tell(5, entry);
            }
            if (kind == 'L') {
                frame.lastPitch = lastPitch;
                lastPitch = MIDDLE_C;
                relatives++;
            } else if (kind == 'T') {
                frame.up = up;
                frame.down = down;
                up *= program.two(entry);
                down *= program.one(entry);
                tuplets++;
            } else if (kind == 'X') {
                moveLetters += program.one(entry);
                moveHalfTones += program.two(entry);
            } else {
                frame.rounds = program.one(entry);
                // the first round begins as the others do: behind the end of what was ahead
                frame.cursor = frame.limit;
            }
            return true;
        }

        private boolean end(Frame frame) {
            switch (program.kindOf(frame.entry)) {
                case 'R': return nextRound(frame);
                case '[': return nextVoice(frame);
                case 'L':
                    lastPitch = frame.lastPitch;
                    relatives--;
                    break;
                case 'T':
                    up = frame.up;
                    down = frame.down;
                    tuplets--;
                    break;
                case 'X':
                    moveLetters -= program.one(frame.entry);
                    moveHalfTones -= program.two(frame.entry);
                    break;
                case '$':
                    holder = frame.holder;
                    uses--;
                    break;
                default: break;
            }
            depth--;
            return true;
        }

        private boolean nextRound(Frame frame) {
            if (frame.rounds <= 0) {
                depth--;
                return true;
            }
            frame.rounds--;
            frame.cursor = frame.entry + 1;
            return step(frame.entry);
        }

        private boolean use(int entry) {
            if (uses >= USES_MOST) {
                return tell(5, entry);
            }
            boolean parameter = program.two(entry) == 1;
            int target = program.one(entry);
            // a BLOCK that was given sees the PARAMETERS of where it was written
            Frame giver = parameter ? frameAt(holder) : null;
            int inner = depth;
            int body = program.namedEntry(target);
            if (giver != null) {
                inner = giver.holder;
                body = given(giver.entry, target);
            }
            Frame frame = push(entry, body + 1, program.behind(body));
            if (frame == null) {
                return tell(5, entry);
            }
            frame.holder = holder;
            holder = inner;
            uses++;
            return true;
        }

        private int given(int entry, int k) {
            int block = entry + 1;
            for (int n = 0; n < k && n < PARAMETERS_MOST; n++) {
                block = program.behind(block);
            }
            return block;
        }

        private boolean openVoices(int entry) {
            int first = entry + 1;
            Frame frame = push(entry, first + 1, program.behind(first));
            if (frame == null) {
                return tell(5, entry);
            }
            brackets++;
            frame.voice = voice;
            frame.time = time;
            frame.length = length;
            frame.lastPitch = lastPitch;
            frame.firstEnd = NONE;
            frame.latestEnd = time;
            return true;
        }

        /** One MUSIC of a [ has ended. */
        private boolean nextVoice(Frame frame) {
            if (frame.firstEnd == NONE) {
                frame.firstEnd = time;
                frame.firstLength = length;
                frame.firstLastPitch = lastPitch;
            } else if (!endVoice()) {
                return false;
            }
            frame.latestEnd = Math.max(frame.latestEnd, time);
            int next = frame.limit;
            if (next >= program.behind(frame.entry)) {
                return closeVoices(frame);
            }
            if (score.voiceCount >= VOICES_MOST) {
                return tell(5, frame.entry);
            }
            voice = score.addVoice(frame.time);
            time = frame.time;
            length = frame.length;
            lastPitch = frame.lastPitch;
            frame.cursor = next + 1;
            frame.limit = program.behind(next);
            return true;
        }

        private boolean closeVoices(Frame frame) {
            depth--;
            brackets--;
            voice = frame.voice;
            time = frame.firstEnd;
            length = frame.firstLength;
            lastPitch = frame.firstLastPitch;
            long lacking = frame.latestEnd - time;
            int place = program.placeOf(frame.entry);
            return lacking == 0 || keepTie(0) && append(place, 0, lacking);
        }

        private boolean endVoice() {
            int place = score.tiePlace(voice);
            return place == NONE || fault.tell(6, place);
        }

        /** An EVENT with these PITCHES comes: they must be those that are TIED to it, if some are. */
        private boolean keepTie(long pitches) {
            int place = score.tiePlace(voice);
            return place == NONE || score.latestPitches(voice) == pitches || fault.tell(6, place);
        }

        private boolean append(int place, long pitches, long ticks) {
            if (score.events >= EVENTS_MOST || time + ticks > TICKS_MOST) {
                return fault.tell(5, place);
            }
            score.addEvent(voice, time, ticks, pitches);
            time += ticks;
            return true;
        }

        private boolean sound(int entry) {
            long pitches = findPitches(entry);
            if (pitches == NONE) {
                return tell(3, entry);
            }
            if (program.ticksOf(entry) > 0) {
                length = program.ticksOf(entry);
            }
            if (!keepTie(pitches)) {
                return false;
            }
            long parts = length * up;
            if (down < 1 || parts % down != 0 || parts / down > TICKS_MOST) {
                return tell(2, entry);
            }
            int place = program.placeOf(entry);
            if (!append(place, pitches, parts / down)) {
                return false;
            }
            if (program.one(entry) == 1) {
                score.tieLatest(voice, place);
            }
            return true;
        }

        /** NONE if one of them cannot be. */
        private long findPitches(int entry) {
            int size = Math.min(program.two(entry), PITCHES_MOST);
            long pitches = size;
            int from = lastPitch;
            int lead = lastPitch;
            for (int k = 0; k < size; k++) {
                int written = program.partOf(entry, k);
                from = stepOf(written, from);
                if (k == 0) {
                    lead = from;
                }
                int code = moved(from, Written.alter(written));
                if (code == NONE) {
                    return NONE;
                }
                pitches = Pitches.with(pitches, k, code);
            }
            if (relatives > 0) {
                lastPitch = lead;
            }
            return pitches;
        }

        private int stepOf(int written, int from) {
            int letter = Written.letter(written);
            int octave = MIDDLE_OCTAVE;
            if (relatives > 0) {
                octave = Math.floorDiv(from + 3 - letter, LETTERS);
            }
            return (octave + Written.shift(written)) * LETTERS + letter;
        }

        private int moved(int step, int alter) {
            int to = step + moveLetters;
            int octave = Math.floorDiv(to, LETTERS);
            int halfTones = Pitches.halfTones(step) + alter + moveHalfTones;
            int lacking = halfTones - Pitches.halfTones(to);
            boolean good = octave >= 0 && octave <= HIGHEST_OCTAVE
                    && lacking >= -ALTER_MOST && lacking <= ALTER_MOST;
            return good ? Pitches.code(to, lacking) : NONE;
        }

        private boolean changeMeter(int entry) {
            Meters meters = score.meters;
            if (brackets > 0 || !meters.beginsBar(time)) {
                return tell(7, entry);
            }
            return meters.change(time, program.one(entry), program.two(entry)) || tell(5, entry);
        }

        private boolean sing(int entry) {
            int verse = program.one(entry);
            int size = Math.min(program.two(entry), TAPE_MOST);
            for (int k = 0; k < size; k++) {
                int syllable = program.partOf(entry, k);
                if (!score.addSyllable(voice, verse, syllable)) {
                    return fault.tell(8, Syllables.place(syllable));
                }
            }
            return true;
        }
    }

    /** The METERS from TIME 0 on, and the BARS that they make. */
    private static final class Meters {
        private int size;
        private final long[] begins;
        private final int[] ups;
        private final int[] downs;

        Meters() {
            begins = new long[METERS_MOST];
            ups = new int[METERS_MOST];
            downs = new int[METERS_MOST];
            size = 1;
            ups[0] = 4;
            downs[0] = 4;
        }

        void clear() {
            size = 1;
            begins[0] = 0;
            ups[0] = 4;
            downs[0] = 4;
        }

        long barTicks(int meter) {
            boolean known = meter >= 0 && meter < size && downs[meter] > 0;
            return known ? Math.max(1, ups[meter] * WHOLE / downs[meter]) : WHOLE;
        }

        /** Of a TIME that is not ahead of the latest METER. */
        boolean beginsBar(long time) {
            int latest = size - 1;
            long ticks = barTicks(latest);
            return ticks > 0 && latest >= 0 && (time - begins[latest]) % ticks == 0;
        }

        /** False if there would be too many. */
        boolean change(long time, int up, int down) {
            int meter = begins[size - 1] == time ? size - 1 : size;
            if (meter >= METERS_MOST) {
                return false;
            }
            begins[meter] = time;
            ups[meter] = up;
            downs[meter] = down;
            size = meter + 1;
            return true;
        }

        /** How many BARS of one METER begin ahead of a TIME. */
        private int barsUpTo(int meter, long time) {
            long ticks = barTicks(meter);
            return ticks < 1 ? 0 : (int) ((time - begins[meter] + ticks - 1) / ticks);
        }

        private int barsOf(int meter) {
            return barsUpTo(meter, begins[meter + 1]);
        }

        int barsAhead(long end) {
            int bars = 0;
            for (int meter = 0; meter < size - 1; meter++) {
                bars += barsOf(meter);
            }
            return bars + barsUpTo(size - 1, end);
        }

        int meterOfBar(int bar) {
            int left = bar;
            for (int meter = 0; meter < size - 1; meter++) {
                int bars = barsOf(meter);
                if (left < bars) {
                    return meter;
                }
                left -= bars;
            }
            return size - 1;
        }

        long beginOfBar(int bar) {
            int meter = meterOfBar(bar);
            int left = bar;
            for (int m = 0; m < meter; m++) {
                left -= barsOf(m);
            }
            return begins[meter] + left * barTicks(meter);
        }
    }

    /** What a text was performed into. */
    private static final class Score {
        // a copy of the tape: SYLLABLES are places in it
        private final byte[] text;
        private int events;
        private final int[] voiceOf;
        private final long[] times;
        private final long[] lengths;
        private final long[] pitches;
        private final boolean[] tied;
        private final boolean[] continued;
        private final int[] syllables;
        private final int[] order;
        private int voiceCount;
        private final long[] voiceBegins;
        private final int[] latest;
        private final int[] tiePlaces;
        private final Meters meters;
        private int names;
        private int steps;
        private long end;

        Score() {
            text = new byte[TAPE_MOST];
            voiceOf = new int[EVENTS_MOST];
            times = new long[EVENTS_MOST];
            lengths = new long[EVENTS_MOST];
            pitches = new long[EVENTS_MOST];
            tied = new boolean[EVENTS_MOST];
            continued = new boolean[EVENTS_MOST];
            syllables = new int[EVENTS_MOST * VERSES];
            order = new int[EVENTS_MOST];
            voiceBegins = new long[VOICES_MOST];
            latest = new int[VOICES_MOST];
            tiePlaces = new int[VOICES_MOST];
            meters = new Meters();
            voiceCount = 1;
        }

        void clear(byte[] tape, int length) {
            if (length >= 0 && length <= tape.length && length <= text.length) {
                System.arraycopy(tape, 0, text, 0, length);
            }
            events = 0;
            voiceCount = 0;
            meters.clear();
            names = 0;
            steps = 0;
            end = 0;
            addVoice(0);
        }

        private boolean holds(int i) {
            return i >= 0 && i < events && i < EVENTS_MOST;
        }

        private boolean hasVoice(int voice) {
            return voice >= 0 && voice < voiceCount && voice < VOICES_MOST;
        }

        int addVoice(long time) {
            int voice = voiceCount;
            if (voice < VOICES_MOST) {
                voiceCount++;
                voiceBegins[voice] = time;
                latest[voice] = NONE;
                tiePlaces[voice] = NONE;
            }
            return voice;
        }

        long beginOfVoice(int voice) {
            return hasVoice(voice) ? voiceBegins[voice] : 0;
        }

        /** Where the ITEM stands whose ~ still wants an EVENT. */
        int tiePlace(int voice) {
            return hasVoice(voice) ? tiePlaces[voice] : NONE;
        }

        long latestPitches(int voice) {
            int i = hasVoice(voice) ? latest[voice] : NONE;
            return holds(i) ? pitches[i] : 0;
        }

        void addEvent(int voice, long time, long ticks, long newPitches) {
            if (!hasVoice(voice) || events >= EVENTS_MOST) {
                return;
            }
            int i = events;
            events++;
            voiceOf[i] = voice;
            times[i] = time;
            lengths[i] = ticks;
            pitches[i] = newPitches;
            tied[i] = false;
            continued[i] = tiePlaces[voice] != NONE;
            for (int verse = 1; verse <= VERSES; verse++) {
                syllables[slot(i, verse)] = NONE;
            }
            latest[voice] = i;
            tiePlaces[voice] = NONE;
        }

        void tieLatest(int voice, int place) {
            int i = hasVoice(voice) ? latest[voice] : NONE;
            if (holds(i)) {
                tied[i] = true;
                tiePlaces[voice] = place;
            }
        }

        private static int slot(int i, int verse) {
            return i * VERSES + verse - 1;
        }

        int syllableOf(int i, int verse) {
            boolean known = holds(i) && verse >= 1 && verse <= VERSES;
            return known ? syllables[slot(i, verse)] : NONE;
        }

        boolean maySing(int i, int voice) {
            return holds(i) && voiceOf[i] == voice && pitches[i] != 0 && !continued[i];
        }

        /** False if no EVENT is left that may have it. */
        boolean addSyllable(int voice, int verse, int syllable) {
            if (verse < 1 || verse > VERSES) {
                return false;
            }
            for (int i = 0; i < events; i++) {
                if (maySing(i, voice) && syllableOf(i, verse) == NONE) {
                    syllables[slot(i, verse)] = syllable;
                    return true;
                }
            }
            return false;
        }

        int syllableByte(int i, int verse, int k) {
            int syllable = syllableOf(i, verse);
            if (k < 0 || k >= Syllables.length(syllable)) {
                return NONE;
            }
            int place = Syllables.place(syllable) + k;
            return place >= 0 && place < text.length ? text[place] & 255 : NONE;
        }

        /** The last EVENT of a VOICE that has a SYLLABLE with bytes; NONE. */
        int lastSung(int voice, int verse) {
            for (int i = events - 1; i >= 0; i--) {
                if (maySing(i, voice) && Syllables.length(syllableOf(i, verse)) > 0) {
                    return i;
                }
            }
            return NONE;
        }

        int pitchesIn(int i) {
            return holds(i) ? Pitches.size(pitches[i]) : 0;
        }

        int codeOf(int i, int k) {
            return holds(i) && k >= 0 && k < PITCHES_MOST ? Pitches.get(pitches[i], k) : 0;
        }

        int countRests() {
            int rests = 0;
            for (int i = 0; i < events; i++) {
                if (pitchesIn(i) == 0) {
                    rests++;
                }
            }
            return rests;
        }

        long tiedLength(int i) {
            if (!holds(i) || continued[i]) {
                return 0;
            }
            long sum = 0;
            for (int n = i; n < events; n++) {
                if (voiceOf[n] == voiceOf[i]) {
                    sum += lengths[n];
                    if (!tied[n]) {
                        return sum;
                    }
                }
            }
            return sum;
        }

        int countBegun(long from, long ahead) {
            int begun = 0;
            for (int i = 0; i < events; i++) {
                if (times[i] >= from && times[i] < ahead) {
                    begun++;
                }
            }
            return begun;
        }

        /** The EVENT of a VOICE at up / down TICKS; NONE. */
        int sounding(int voice, long up, long down) {
            for (int i = 0; i < events; i++) {
                if (voiceOf[i] == voice && times[i] * down <= up
                        && up < (times[i] + lengths[i]) * down) {
                    return i;
                }
            }
            return NONE;
        }

        void sortByTime() {
            for (int i = 0; i < events && i < EVENTS_MOST; i++) {
                int k = i;
                while (k > 0 && comesLater(order[k - 1], i)) {
                    order[k] = order[k - 1];
                    k--;
                }
                order[k] = i;
            }
        }

        private boolean comesLater(int one, int other) {
            if (!holds(one) || !holds(other)) {
                return false;
            }
            return times[one] > times[other]
                    || times[one] == times[other] && voiceOf[one] > voiceOf[other];
        }
    }

    /** Prints the NORMAL FORM of a Score. */
    private static final class Printer {
        private static final int DIGITS_MOST = 20;
        // More than 300 CHORDS of six and 900 SYLLABLES of twelve bytes can need.
        private static final int BYTES_MOST = 40000;
        private static final int BYTES_FIRST = 256;

        private byte[] bytes;
        private int size;
        private final byte[] digits;

        Printer() {
            bytes = new byte[BYTES_FIRST];
            digits = new byte[DIGITS_MOST];
        }

        int byteAt(int i) {
            return i >= 0 && i < size && i < bytes.length ? bytes[i] & 255 : NONE;
        }

        int print(Score score) {
            size = 0;
            boolean several = score.voiceCount > 1;
            if (several) {
                putText("[ ");
            }
            for (int voice = 0; voice < score.voiceCount; voice++) {
                if (voice > 0) {
                    putText(" / ");
                }
                putVoice(score, voice);
            }
            if (several) {
                putText(" ]");
            }
            return size;
        }

        private void put(int b) {
            if (size >= bytes.length && size < BYTES_MOST) {
                bytes = Arrays.copyOf(bytes, Math.min(BYTES_MOST, 2 * size + BYTES_FIRST));
            }
            if (size < bytes.length) {
                bytes[size] = (byte) b;
                size++;
            }
        }

        private void putText(String text) {
            for (int i = 0; i < text.length(); i++) {
                put(text.charAt(i));
            }
        }

        private void putTimes(int b, int times) {
            for (int n = 0; n < times; n++) {
                put(b);
            }
        }

        private void putTicks(long ticks) {
            put(':');
            int count = 0;
            long left = ticks;
            do {
                digits[count] = (byte) ('0' + left % 10);
                left /= 10;
                count++;
            } while (left > 0 && count < DIGITS_MOST);
            for (int n = count - 1; n >= 0; n--) {
                put(digits[n]);
            }
        }

        private void putGap(int start) {
            if (size > start) {
                put(' ');
            }
        }

        private void putVoice(Score score, int voice) {
            int start = size;
            if (score.beginOfVoice(voice) > 0) {
                put('r');
                putTicks(score.beginOfVoice(voice));
            }
            for (int i = 0; i < score.events; i++) {
                if (score.voiceOf[i] == voice) {
                    putGap(start);
                    putSound(score, i);
                }
            }
            for (int verse = 1; verse <= VERSES; verse++) {
                int last = score.lastSung(voice, verse);
                if (last != NONE) {
                    putGap(start);
                    putVerse(score, voice, verse, last);
                }
            }
        }

        private void putSound(Score score, int i) {
            int pitches = score.pitchesIn(i);
            if (pitches == 0) {
                put('r');
            } else if (pitches == 1) {
                putPitch(score.codeOf(i, 0));
            } else {
                put('<');
                for (int k = 0; k < pitches; k++) {
                    if (k > 0) {
                        put(' ');
                    }
                    putPitch(score.codeOf(i, k));
                }
                put('>');
            }
            putTicks(score.lengths[i]);
            if (score.tied[i]) {
                put('~');
            }
        }

        private void putPitch(int code) {
            int letter = Pitches.letter(code);
            int alter = Pitches.alter(code);
            int shift = Pitches.octave(code) - MIDDLE_OCTAVE;
            put('a' + (letter + 2) % LETTERS);
            putTimes(alter < 0 ? '-' : '+', Math.abs(alter));
            putTimes(shift < 0 ? ',' : '\'', Math.abs(shift));
        }

        private void putVerse(Score score, int voice, int verse, int last) {
            putText("W ");
            put('0' + verse);
            putText(" \"");
            int start = size;
            for (int i = 0; i <= last; i++) {
                if (score.maySing(i, voice)) {
                    putGap(start);
                    putSyllable(score, i, verse);
                }
            }
            put('"');
        }

        private void putSyllable(Score score, int i, int verse) {
            int length = Syllables.length(score.syllableOf(i, verse));
            if (length == 0) {
                put('_');
            }
            for (int k = 0; k < length; k++) {
                put(score.syllableByte(i, verse, k));
            }
        }
    }
}
