import java.util.Random;

/** All promises: whatever is asked, only the exceptions of the document come, and nothing changes. */
public final class CallsTest {
    private static final int[] EDGES = {Integer.MIN_VALUE, -1000, -2, -1, 0, 1, 2, 3, 4, 5, 6, 7, 8, 9, 11,
        12, 40, 299, 300, 301, 1500, 32000, Integer.MAX_VALUE};

    private static final Random random = new Random(7);

    public static void main(String[] args) {
        Texts texts = new Texts(7);
        for (int n = 0; n < 300; n++) {
            OwnText x = new OwnText();
            for (int k = 0; k < 4; k++) {
                Check.read(x, texts.next());
                x.write();
                String before = Snapshot.of(x) + x.fault() + Check.printedText(x);
                for (int c = 0; c < 60; c++) {
                    ask(x);
                }
                Check.same("unchanged", Snapshot.of(x) + x.fault() + Check.printedText(x), before);
            }
        }
        bytesByChance();
        Check.done();
    }

    private static int edge() {
        return EDGES[random.nextInt(EDGES.length)];
    }

    private static void ask(OwnText x) {
        int i = edge();
        int k = edge();
        int what = edge();
        boolean known = i >= 0 && i < x.count(0);
        String event = !known ? "Index" : what < 0 || what > 6 ? "Argument" : "";
        answers("event", event, () -> x.event(i, what));
        boolean has = known && k >= 0 && k < x.event(i, 1);
        String pitch = !has ? "Index" : what < 0 || what > 3 ? "Argument" : "";
        answers("pitch", pitch, () -> x.pitch(i, k, what));
        String word = !known ? "Index" : what < 1 || what > 3 ? "Argument" : "";
        answers("word", word, () -> x.word(i, what, k));
        answers("walk", known ? "" : "Index", () -> x.walk(i));
        boolean isBar = i >= 0 && i < x.count(6);
        String bar = !isBar ? "Index" : what < 0 || what > 3 ? "Argument" : "";
        answers("bar", bar, () -> x.bar(i, what));
        boolean isVoice = i >= 0 && i < x.count(1);
        String at = !isVoice ? "Index" : what == 0 ? "Arithmetic" : what < 0 ? "Argument" : "";
        answers("at", at, () -> x.at(i, k, what));
        answers("count", what < 0 || what > 6 ? "Argument" : "", () -> x.count(what));
        answers("printed", "", () -> x.printed(i));
        if (k < 1 || k > 8) {
            answers("feed", "Argument", () -> x.feed(i, k));
        }
    }

    private static void answers(String what, String due, Check.Call call) {
        String outcome = Check.outcome(call);
        String got = switch (outcome) {
            case "throws.IndexOutOfBoundsException" -> "Index";
            case "throws.IllegalArgumentException" -> "Argument";
            case "throws.ArithmeticException" -> "Arithmetic";
            default -> outcome.startsWith("throws") ? outcome : "";
        };
        Check.same(what, got, due);
    }

    private static void bytesByChance() {
        OwnText x = new OwnText();
        for (int n = 0; n < 20000; n++) {
            int size = random.nextInt(60);
            for (int k = 0; k < size; k++) {
                x.feed(random.nextLong(), 1 + random.nextInt(8));
            }
            int answer = x.read();
            Check.same("a FAULT or EVENTS", answer <= -1000 || answer == x.count(0) ? 1 : 0, 1);
        }
    }
}
