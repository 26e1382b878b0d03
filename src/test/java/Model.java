import java.math.BigInteger;
import java.util.ArrayList;
import java.util.Comparator;
import java.util.HashMap;
import java.util.List;
import java.util.Map;
import java.util.TreeMap;

/**
 * A second reading of the document, written apart from OwnText and in another way (a tree, calls that
 * call themselves, exceptions), to compare with on many texts.
 */
final class Model {
    /** A FAULT. */
    static final class Trouble extends RuntimeException {
        private static final long serialVersionUID = 1L;
        final int kind;
        final int place;

        Trouble(int kind, int place) {
            super(null, null, false, false);
            this.kind = kind;
            this.place = place;
        }
    }

    /** An ITEM. */
    private static final class Node {
        char kind;
        int place;
        int one;
        int two;
        long told;
        boolean tie;
        List<int[]> pitches = new ArrayList<>();
        Map<Integer, String> syllables = new TreeMap<>();
        List<List<Node>> bodies = new ArrayList<>();
        Named named;
        int parameter = -1;
    }

    private static final class Named {
        List<String> parameters = new ArrayList<>();
        List<Node> body;
    }

    /** A BLOCK that was given, with the PARAMETERS of where it was written. */
    private record Given(List<Node> body, List<Given> around) {
    }

    private static final class Sound {
        int voice;
        long time;
        long length;
        List<List<Integer>> pitches;
        boolean tied;
        boolean continued;
        int place;
        String[] words = new String[4];

        boolean sings() {
            return !pitches.isEmpty() && !continued;
        }
    }

    private record Meter(long time, int one, int two) {
        long ticks() {
            return WHOLE / two * one;
        }
    }

    private static final long WHOLE = 3870720;
    private static final long LIMIT = 3870720000L;
    private static final String LETTERS = "cdefgab";
    private static final int[] HALF = {0, 2, 4, 5, 7, 9, 11};

    private final String text;
    private int p = 0;
    private int open = 0;
    private int equals = 0;
    private Named current = null;
    private final Map<String, Named> known = new HashMap<>();

    private final List<Sound> sounds = new ArrayList<>();
    private final List<Long> voiceBegins = new ArrayList<>();
    private final List<Meter> meters = new ArrayList<>();
    private int steps = 0;
    private int voice = 0;
    private long time = 0;
    private long length = WHOLE / 4;
    private int last = 28;
    private int relatives = 0;
    private final List<int[]> tuplets = new ArrayList<>();
    private final List<int[]> moves = new ArrayList<>();
    private int uses = 0;
    private int brackets = 0;

    Model(String text) {
        this.text = text;
        voiceBegins.add(0L);
        meters.add(new Meter(0, 4, 4));
        List<Node> all = music();
        if (p < text.length()) {
            throw new Trouble(1, p);
        }
        perform(all, List.of());
        voiceEnds(0);
    }

    // ---- reading

    private boolean sees(String some) {
        return p < text.length() && some.indexOf(text.charAt(p)) >= 0;
    }

    private void want(char c) {
        if (p >= text.length() || text.charAt(p) != c) {
            throw new Trouble(1, p);
        }
        p++;
    }

    private void blanks() {
        while (sees(" \n%")) {
            if (text.charAt(p) == '%') {
                int end = text.indexOf('\n', p);
                p = end < 0 ? text.length() : end;
            } else {
                p++;
            }
        }
    }

    private String run(String some) {
        int from = p;
        while (sees(some)) {
            p++;
        }
        return text.substring(from, p);
    }

    private long digits(int most) {
        int from = p;
        String digits = run("0123456789");
        if (digits.isEmpty()) {
            throw new Trouble(1, p);
        }
        if (digits.length() > most) {
            throw new Trouble(2, from);
        }
        return Long.parseLong(digits);
    }

    private int number(List<Integer> allowed) {
        blanks();
        int from = p;
        int n = (int) digits(3);
        if (!allowed.contains(n)) {
            throw new Trouble(2, from);
        }
        return n;
    }

    private static List<Integer> span(int low, int high) {
        List<Integer> all = new ArrayList<>();
        for (int n = low; n <= high; n++) {
            all.add(n);
        }
        return all;
    }

    private int signed() {
        blanks();
        if (sees("-")) {
            p++;
            return -(int) digits(2);
        }
        return (int) digits(2);
    }

    private int upTo(char c, int most) {
        int n = 0;
        while (n < most && sees(String.valueOf(c))) {
            p++;
            n++;
        }
        return n;
    }

    private List<Node> music() {
        List<Node> all = new ArrayList<>();
        blanks();
        while (sees("abcdefgr<|MLRTX[W=$")) {
            all.add(item());
            blanks();
        }
        return all;
    }

    private List<Node> block() {
        blanks();
        if (!sees("{")) {
            throw new Trouble(1, p);
        }
        if (open == 8) {
            throw new Trouble(5, p);
        }
        open++;
        p++;
        List<Node> body = music();
        want('}');
        open--;
        return body;
    }

    private Node item() {
        Node node = new Node();
        node.place = p;
        node.kind = text.charAt(p);
        switch (node.kind) {
            case '|' -> p++;
            case 'M' -> {
                p++;
                node.one = number(span(1, 32));
                slash();
                node.two = number(List.of(1, 2, 4, 8, 16, 32));
            }
            case 'L' -> {
                p++;
                node.bodies.add(block());
            }
            case 'R' -> {
                p++;
                node.one = number(span(0, 50));
                node.bodies.add(block());
            }
            case 'T' -> {
                p++;
                node.one = number(span(1, 9));
                slash();
                node.two = number(span(1, 9));
                node.bodies.add(block());
            }
            case 'X' -> {
                p++;
                node.one = signed();
                node.two = signed();
                node.bodies.add(block());
            }
            case '[' -> sideBySide(node);
            case 'W' -> words(node);
            case '=' -> naming(node);
            case '$' -> using(node);
            default -> note(node);
        }
        return node;
    }

    private void slash() {
        blanks();
        want('/');
    }

    private void sideBySide(Node node) {
        if (open == 8) {
            throw new Trouble(5, p);
        }
        open++;
        do {
            p++;
            node.bodies.add(music());
        } while (sees("/"));
        want(']');
        open--;
    }

    private void words(Node node) {
        p++;
        node.one = number(span(1, 3));
        blanks();
        want('"');
        run(" \n");
        while (!sees("\"")) {
            int from = p;
            while (p < text.length() && text.charAt(p) > 32 && text.charAt(p) < 127 && !sees("\"")) {
                p++;
            }
            if (p == from) {
                throw new Trouble(1, p);
            }
            if (p - from > 12) {
                throw new Trouble(5, from);
            }
            node.syllables.put(from, text.substring(from, p));
            run(" \n");
        }
        p++;
    }

    private String name() {
        blanks();
        String name = run("abcdefghijklmnopqrstuvwxyz");
        if (name.isEmpty()) {
            throw new Trouble(1, p);
        }
        return name;
    }

    private void naming(Node node) {
        if (current != null) {
            throw new Trouble(1, p);
        }
        equals++;
        if (equals > 20) {
            throw new Trouble(5, p);
        }
        p++;
        List<String> there = new ArrayList<>();
        do {
            String name = name();
            int from = p - name.length();
            if (known.containsKey(name) || there.contains(name)) {
                throw new Trouble(4, from);
            }
            if (name.length() > 6 || there.size() == 5) {
                throw new Trouble(5, from);
            }
            there.add(name);
            blanks();
        } while (sees("abcdefghijklmnopqrstuvwxyz"));
        current = new Named();
        current.parameters = there.subList(1, there.size());
        current.body = block();
        known.put(there.get(0), current);
        current = null;
    }

    private void using(Node node) {
        p++;
        String name = name();
        if (current != null && current.parameters.contains(name)) {
            node.parameter = current.parameters.indexOf(name);
            return;
        }
        node.named = known.get(name);
        if (node.named == null) {
            throw new Trouble(4, p - name.length());
        }
        for (int k = 0; k < node.named.parameters.size(); k++) {
            node.bodies.add(block());
        }
    }

    private int[] pitch() {
        if (!sees(LETTERS)) {
            throw new Trouble(1, p);
        }
        int letter = LETTERS.indexOf(text.charAt(p));
        p++;
        int alter = upTo('+', 2);
        alter = alter > 0 ? alter : -upTo('-', 2);
        int shift = upTo('\'', 9);
        shift = shift > 0 ? shift : -upTo(',', 9);
        return new int[] {letter, alter, shift};
    }

    private void note(Node node) {
        if (node.kind == 'r') {
            p++;
        } else if (node.kind == '<') {
            p++;
            do {
                blanks();
                if (node.pitches.size() == 6 && sees(LETTERS)) {
                    throw new Trouble(5, p);
                }
                node.pitches.add(pitch());
                blanks();
            } while (!sees(">"));
            p++;
        } else {
            node.pitches.add(pitch());
        }
        if (sees(":")) {
            p++;
            int from = p;
            node.told = digits(10);
            if (node.told < 1 || node.told > LIMIT) {
                throw new Trouble(2, from);
            }
        } else if (sees("0123456789")) {
            int from = p;
            int n = (int) digits(3);
            if (!List.of(1, 2, 4, 8, 16, 32, 64).contains(n)) {
                throw new Trouble(2, from);
            }
            long sum = 0;
            int dots = upTo('.', 3);
            for (int k = 0; k <= dots; k++) {
                sum += WHOLE / n / (1 << k);
            }
            node.told = sum;
        }
        if (node.kind != 'r' && sees("~")) {
            p++;
            node.tie = true;
        }
    }

    // ---- performing

    private void step(Node node) {
        if (steps == 3000) {
            throw new Trouble(5, node.place);
        }
        steps++;
    }

    private void perform(List<Node> music, List<Given> parameters) {
        for (Node node : music) {
            step(node);
            perform(node, parameters);
        }
    }

    private void perform(Node node, List<Given> parameters) {
        switch (node.kind) {
            case '=' -> { }
            case '|' -> {
                if (!beginsBar()) {
                    throw new Trouble(7, node.place);
                }
            }
            case 'M' -> meter(node);
            case 'L' -> {
                int before = last;
                last = 28;
                relatives++;
                perform(node.bodies.get(0), parameters);
                relatives--;
                last = before;
            }
            case 'R' -> {
                for (int n = 0; n < node.one; n++) {
                    step(node);
                    perform(node.bodies.get(0), parameters);
                }
            }
            case 'T' -> {
                if (tuplets.size() == 8) {
                    throw new Trouble(5, node.place);
                }
                tuplets.add(new int[] {node.one, node.two});
                perform(node.bodies.get(0), parameters);
                tuplets.remove(tuplets.size() - 1);
            }
            case 'X' -> {
                moves.add(new int[] {node.one, node.two});
                perform(node.bodies.get(0), parameters);
                moves.remove(moves.size() - 1);
            }
            case '[' -> sideBySide(node, parameters);
            case '$' -> using(node, parameters);
            case 'W' -> node.syllables.forEach((place, bytes) -> sing(node.one, place, bytes));
            default -> sound(node);
        }
    }

    private void using(Node node, List<Given> parameters) {
        if (uses == 24) {
            throw new Trouble(5, node.place);
        }
        uses++;
        if (node.parameter >= 0) {
            Given given = parameters.get(node.parameter);
            perform(given.body, given.around);
        } else {
            List<Given> given = new ArrayList<>();
            for (List<Node> body : node.bodies) {
                given.add(new Given(body, parameters));
            }
            perform(node.named.body, given);
        }
        uses--;
    }

    private void sideBySide(Node node, List<Given> parameters) {
        int ownVoice = voice;
        long begin = time;
        long lengthBefore = length;
        int lastBefore = last;
        brackets++;
        perform(node.bodies.get(0), parameters);
        long end = time;
        long firstEnd = time;
        long firstLength = length;
        int firstLast = last;
        for (List<Node> body : node.bodies.subList(1, node.bodies.size())) {
            if (voiceBegins.size() == 12) {
                throw new Trouble(5, node.place);
            }
            voice = voiceBegins.size();
            voiceBegins.add(begin);
            time = begin;
            length = lengthBefore;
            last = lastBefore;
            perform(body, parameters);
            voiceEnds(voice);
            end = Math.max(end, time);
        }
        brackets--;
        voice = ownVoice;
        time = firstEnd;
        length = firstLength;
        last = firstLast;
        if (end > time) {
            tie(List.of());
            add(node.place, List.of(), end - time);
        }
    }

    private Sound latest(int ofVoice) {
        Sound found = null;
        for (Sound s : sounds) {
            if (s.voice == ofVoice) {
                found = s;
            }
        }
        return found;
    }

    private void voiceEnds(int which) {
        Sound s = latest(which);
        if (s != null && s.tied) {
            throw new Trouble(6, s.place);
        }
    }

    private void tie(List<List<Integer>> pitches) {
        Sound s = latest(voice);
        if (s != null && s.tied && !s.pitches.equals(pitches)) {
            throw new Trouble(6, s.place);
        }
    }

    private Sound add(int place, List<List<Integer>> pitches, long ticks) {
        if (sounds.size() == 300 || time + ticks > LIMIT) {
            throw new Trouble(5, place);
        }
        Sound before = latest(voice);
        Sound s = new Sound();
        s.continued = before != null && before.tied;
        s.voice = voice;
        s.time = time;
        s.length = ticks;
        s.pitches = pitches;
        s.place = place;
        sounds.add(s);
        time += ticks;
        return s;
    }

    private void sound(Node node) {
        List<List<Integer>> pitches = new ArrayList<>();
        int from = last;
        int first = last;
        for (int[] written : node.pitches) {
            int octave = 4;
            if (relatives > 0) {
                octave = 0;
                while (Math.abs(octave * 7 + written[0] - from) > 3) {
                    octave = octave * 7 + written[0] < from ? octave + 1 : octave - 1;
                }
            }
            octave += written[2];
            from = octave * 7 + written[0];
            first = pitches.isEmpty() ? from : first;
            pitches.add(moved(node, from, written[1]));
        }
        if (relatives > 0) {
            last = first;
        }
        length = node.told > 0 ? node.told : length;
        tie(pitches);
        BigInteger up = BigInteger.valueOf(length);
        BigInteger down = BigInteger.ONE;
        for (int[] t : tuplets) {
            up = up.multiply(BigInteger.valueOf(t[1]));
            down = down.multiply(BigInteger.valueOf(t[0]));
        }
        BigInteger[] parts = up.divideAndRemainder(down);
        if (parts[1].signum() != 0 || parts[0].compareTo(BigInteger.valueOf(LIMIT)) > 0) {
            throw new Trouble(2, node.place);
        }
        add(node.place, pitches, parts[0].longValueExact()).tied = node.tie;
    }

    private static int halfTones(int step) {
        int octave = (step + 7000) / 7 - 1000;
        return octave * 12 + HALF[step - octave * 7];
    }

    private List<Integer> moved(Node node, int step, int alter) {
        int to = step;
        int half = halfTones(step) + alter;
        for (int[] m : moves) {
            to += m[0];
            half += m[1];
        }
        int left = half - halfTones(to);
        if (to < 0 || to > 69 || left < -2 || left > 2) {
            throw new Trouble(3, node.place);
        }
        return List.of(to % 7, left, to / 7, half);
    }

    private boolean beginsBar() {
        Meter m = meters.get(meters.size() - 1);
        return (time - m.time) % m.ticks() == 0;
    }

    private void meter(Node node) {
        if (brackets > 0 || !beginsBar()) {
            throw new Trouble(7, node.place);
        }
        if (meters.get(meters.size() - 1).time == time) {
            meters.remove(meters.size() - 1);
        }
        if (meters.size() == 40) {
            throw new Trouble(5, node.place);
        }
        meters.add(new Meter(time, node.one, node.two));
    }

    private void sing(int verse, int place, String bytes) {
        for (Sound s : sounds) {
            if (s.voice == voice && s.sings() && s.words[verse] == null) {
                s.words[verse] = bytes.equals("_") ? "" : bytes;
                return;
            }
        }
        throw new Trouble(8, place);
    }

    // ---- answers

    int size() {
        return sounds.size();
    }

    private List<long[]> bars() {
        List<long[]> bars = new ArrayList<>();
        for (int k = 0; k < meters.size(); k++) {
            Meter m = meters.get(k);
            long end = k + 1 < meters.size() ? meters.get(k + 1).time : time;
            for (long t = m.time; t < end; t += m.ticks()) {
                long from = t;
                long begun = sounds.stream().filter(s -> s.time >= from && s.time < from + m.ticks()).count();
                bars.add(new long[] {t, m.one, m.two, begun});
            }
        }
        return bars;
    }

    private long together(int i) {
        Sound s = sounds.get(i);
        if (s.continued) {
            return 0;
        }
        long sum = s.length;
        boolean on = s.tied;
        for (int k = i + 1; k < sounds.size() && on; k++) {
            if (sounds.get(k).voice == s.voice) {
                sum += sounds.get(k).length;
                on = sounds.get(k).tied;
            }
        }
        return sum;
    }

    /** In the form of Snapshot. */
    String snapshot() {
        List<long[]> bars = bars();
        StringBuilder s = new StringBuilder();
        long rests = sounds.stream().filter(e -> e.pitches.isEmpty()).count();
        s.append(sounds.size()).append(' ').append(voiceBegins.size()).append(' ').append(rests).append(' ');
        s.append(equals).append(' ').append(steps).append(' ').append(meters.size()).append(' ');
        s.append(bars.size()).append(' ');
        List<Integer> walk = new ArrayList<>(span(0, sounds.size() - 1));
        walk.sort(Comparator.<Integer>comparingLong(i -> sounds.get(i).time)
                .thenComparing(i -> sounds.get(i).voice).thenComparing(i -> i));
        for (int i = 0; i < sounds.size(); i++) {
            Sound e = sounds.get(i);
            s.append('\n').append(i).append(": ").append(e.voice).append(' ').append(e.pitches.size());
            s.append(e.tied ? " 1" : " 0").append(e.continued ? " 1 " : " 0 ").append(e.time);
            s.append(' ').append(e.length).append(' ').append(together(i));
            for (List<Integer> pitch : e.pitches) {
                s.append(" p").append(pitch.get(0)).append(',').append(pitch.get(1)).append(',');
                s.append(pitch.get(2)).append(',').append(pitch.get(3));
            }
            for (int verse = 1; verse <= 3; verse++) {
                s.append(" w").append(e.words[verse] == null ? "" : e.words[verse]);
            }
            s.append(" at ").append(walk.get(i));
        }
        for (int b = 0; b < Math.min(bars.size(), 60); b++) {
            long[] bar = bars.get(b);
            s.append("\nbar ").append(bar[0]).append(' ').append(bar[1]).append(' ').append(bar[2]);
            s.append(' ').append(bar[3]);
        }
        return s.toString();
    }

    int at(int ofVoice, long up, long down) {
        for (int i = 0; i < sounds.size(); i++) {
            Sound s = sounds.get(i);
            BigInteger when = BigInteger.valueOf(up).multiply(BigInteger.valueOf(WHOLE));
            BigInteger from = BigInteger.valueOf(s.time).multiply(BigInteger.valueOf(down));
            BigInteger to = BigInteger.valueOf(s.time + s.length).multiply(BigInteger.valueOf(down));
            if (s.voice == ofVoice && from.compareTo(when) <= 0 && when.compareTo(to) < 0) {
                return i;
            }
        }
        return -1;
    }

    String normalForm() {
        List<String> voices = new ArrayList<>();
        for (int v = 0; v < voiceBegins.size(); v++) {
            voices.add(normalForm(v));
        }
        return voices.size() == 1 ? voices.get(0) : "[ " + String.join(" / ", voices) + " ]";
    }

    private String normalForm(int v) {
        List<String> parts = new ArrayList<>();
        if (voiceBegins.get(v) > 0) {
            parts.add("r:" + voiceBegins.get(v));
        }
        List<Sound> own = sounds.stream().filter(s -> s.voice == v).toList();
        for (Sound s : own) {
            List<String> pitches = s.pitches.stream().map(Model::written).toList();
            String head = pitches.isEmpty() ? "r" : String.join(" ", pitches);
            head = pitches.size() > 1 ? "<" + head + ">" : head;
            parts.add(head + ":" + s.length + (s.tied ? "~" : ""));
        }
        for (int verse = 1; verse <= 3; verse++) {
            List<String> words = new ArrayList<>();
            int size = 0;
            for (Sound s : own) {
                if (s.sings()) {
                    boolean bare = s.words[verse] == null || s.words[verse].isEmpty();
                    words.add(bare ? "_" : s.words[verse]);
                    size = bare ? size : words.size();
                }
            }
            if (size > 0) {
                parts.add("W " + verse + " \"" + String.join(" ", words.subList(0, size)) + "\"");
            }
        }
        return String.join(" ", parts);
    }

    private static String written(List<Integer> pitch) {
        int alter = pitch.get(1);
        int shift = pitch.get(2) - 4;
        return LETTERS.charAt(pitch.get(0)) + (alter < 0 ? "-" : "+").repeat(Math.abs(alter))
                + (shift < 0 ? "," : "'").repeat(Math.abs(shift));
    }
}
