import java.util.ArrayList;
import java.util.List;
import java.util.Random;

/** Makes texts by chance (of a told seed): good ones by the grammar, and ones with something wrong. */
final class Texts {
    private static final String BYTES = "abcdefgr<>|MLRTX[]{}/W=$\"+-',.:~_0123456789 \n%xyzh\t\u00ff";
    private static final String[] LENGTHS = {"", "", "", "", "1", "2", "4", "8", "16", "4.", "2..", "8...",
        "64", ":60480", ":967680", ":1", "004"};

    private final Random random;
    private StringBuilder s;
    private int depth;
    private boolean inNamed;
    private List<String> names;
    private List<Integer> takes;
    private List<String> parameters;

    Texts(long seed) {
        random = new Random(seed);
    }

    String next() {
        s = new StringBuilder();
        depth = 0;
        inNamed = false;
        names = new ArrayList<>();
        takes = new ArrayList<>();
        parameters = new ArrayList<>();
        music(2 + random.nextInt(9));
        String text = s.toString();
        int faults = random.nextInt(3) == 0 ? 1 + random.nextInt(2) : 0;
        for (int n = 0; n < faults; n++) {
            text = broken(text);
        }
        return text.length() > 1500 ? text.substring(0, 1500) : text;
    }

    private String broken(String text) {
        int at = random.nextInt(text.length() + 1);
        int end = Math.min(text.length(), at + 1 + random.nextInt(2));
        char b = BYTES.charAt(random.nextInt(BYTES.length()));
        return switch (random.nextInt(5)) {
            case 0 -> text.substring(0, at) + text.substring(end);
            case 1 -> text.substring(0, at) + b + text.substring(at);
            case 2 -> text.substring(0, at) + b + text.substring(end);
            case 3 -> text.substring(0, at);
            default -> text.substring(0, at) + text.substring(at, end) + text.substring(at);
        };
    }

    private boolean chance(int n) {
        return random.nextInt(n) == 0;
    }

    private void blank() {
        int kind = random.nextInt(12);
        s.append(kind == 0 ? "\n" : kind == 1 ? "  " : kind == 2 ? "%x{\n" : kind < 6 ? "" : " ");
    }

    private void space() {
        s.append(chance(9) ? "\n" : " ");
    }

    private void music(int items) {
        for (int n = 0; n < items; n++) {
            blank();
            item();
        }
        blank();
    }

    private void block(int items) {
        blank();
        s.append('{');
        depth++;
        music(random.nextInt(items + 1));
        depth--;
        s.append('}');
    }

    private void item() {
        boolean deeper = depth < 5 || chance(20);
        switch (random.nextInt(26)) {
            case 0, 1 -> s.append(chance(8) ? "|" : "r" + LENGTHS[random.nextInt(LENGTHS.length)]);
            case 2 -> s.append(chance(2) ? "r1" : chance(2) ? "M 4/4" : "M " + (1 + random.nextInt(6)) + "/" + (4 << random.nextInt(3)));
            case 3, 4 -> framed(deeper, "L");
            case 5 -> framed(deeper, "R " + random.nextInt(chance(6) ? 51 : 4));
            case 6, 7 -> framed(deeper, "T " + (1 + random.nextInt(9)) + "/" + (1 + random.nextInt(9)));
            case 8, 9 -> move(deeper);
            case 10, 11 -> sideBySide(deeper);
            case 12 -> words();
            case 13, 14 -> naming();
            case 15, 16, 17, 18 -> using(deeper);
            case 19, 20 -> tied();
            case 21 -> chord();
            default -> note();
        }
    }

    private void framed(boolean deeper, String head) {
        if (deeper) {
            s.append(head);
            block(4);
        }
    }

    private void move(boolean deeper) {
        int[][] moves = {{1, 2}, {-1, -2}, {2, 4}, {0, 1}, {-7, -12}, {7, 12}, {1, 1}, {3, 5}, {-2, -3}, {30, 52}};
        int[] m = moves[random.nextInt(moves.length)];
        framed(deeper, "X " + m[0] + (chance(2) ? " " : " \n") + m[1]);
    }

    private void sideBySide(boolean deeper) {
        if (!deeper) {
            return;
        }
        s.append('[');
        depth++;
        int musics = 1 + random.nextInt(chance(7) ? 8 : 3);
        for (int n = 0; n < musics; n++) {
            s.append(n > 0 ? "/" : "");
            music(random.nextInt(4));
        }
        depth--;
        s.append(']');
    }

    private void words() {
        s.append("W").append(chance(3) ? "" : " ").append(1 + random.nextInt(3)).append("\"");
        int size = random.nextInt(4);
        for (int n = 0; n < size; n++) {
            s.append(chance(3) ? "_" : chance(50) ? "abcdefghijklm" : chance(2) ? "la" : "%x~" + n);
            space();
        }
        s.append('"');
    }

    private String newName() {
        // mostly names that are new, now and then ones that may be there already, or are too long
        String letters = chance(4) ? "ab" : "abcdefghijklmnopqrstuvwxyz";
        StringBuilder name = new StringBuilder();
        int size = chance(60) ? 7 : chance(3) ? 1 : 2 + random.nextInt(5);
        for (int n = 0; n < size; n++) {
            name.append(letters.charAt(random.nextInt(letters.length())));
        }
        return name.toString();
    }

    private void naming() {
        if (inNamed || depth > 6) {
            return;
        }
        String name = newName();
        int size = random.nextInt(chance(20) ? 6 : 4);
        s.append('=').append(name);
        for (int n = 0; n < size; n++) {
            String parameter = newName();
            space();
            s.append(parameter);
            parameters.add(parameter);
        }
        inNamed = true;
        block(5);
        inNamed = false;
        parameters.clear();
        names.add(name);
        takes.add(size);
    }

    private void using(boolean deeper) {
        if (!parameters.isEmpty() && chance(2)) {
            s.append('$').append(parameters.get(random.nextInt(parameters.size()))).append(' ');
            return;
        }
        if (names.isEmpty() || !deeper) {
            note();
            return;
        }
        int k = random.nextInt(names.size());
        s.append('$').append(names.get(k));
        for (int n = 0; n < takes.get(k); n++) {
            block(2);
        }
        s.append(' ');
    }

    private String pitch() {
        String[] alters = {"", "", "", "+", "-", "++", "--"};
        String[] shifts = {"", "", "", "", "'", ",", "''", ",,", chance(9) ? "''''''" : ""};
        return "" + "cdefgab".charAt(random.nextInt(7)) + alters[random.nextInt(alters.length)]
                + shifts[random.nextInt(shifts.length)];
    }

    private void note() {
        s.append(pitch()).append(LENGTHS[random.nextInt(LENGTHS.length)]);
    }

    private void chord() {
        s.append('<');
        int size = 1 + random.nextInt(chance(9) ? 7 : 3);
        for (int n = 0; n < size; n++) {
            blank();
            s.append(pitch());
        }
        s.append('>').append(LENGTHS[random.nextInt(LENGTHS.length)]).append(chance(25) ? "~" : "");
    }

    private void tied() {
        String pitch = chance(4) ? "<" + pitch() + " " + pitch() + ">" : pitch();
        s.append(pitch).append(LENGTHS[random.nextInt(LENGTHS.length)]).append('~');
        blank();
        s.append(chance(5) ? "[" : "").append(pitch).append(chance(3) ? "8" : "");
        if (s.lastIndexOf("[") == s.length() - pitch.length() - 1) {
            s.append("/]");
        }
    }
}
