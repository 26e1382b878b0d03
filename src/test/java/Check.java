import java.nio.charset.StandardCharsets;

/** What the tests share: feeding texts, comparing answers, counting those that are wrong. */
final class Check {
    private static int wrong = 0;
    private static int asked = 0;
    private static String sentence = "";

    private Check() {
    }

    /** A call of the face. */
    interface Call {
        long answer();
    }

    /** The words of the document that the answers from here on are due by. */
    static void sentence(String words) {
        sentence = words;
    }

    static void same(String what, long got, long due) {
        same(what, Long.toString(got), Long.toString(due));
    }

    static void same(String what, String got, String due) {
        asked++;
        if (!got.equals(due)) {
            wrong++;
            String by = sentence.isEmpty() ? "" : ", by: " + sentence;
            System.out.println(what + " answered " + got + ", due is " + due + by);
        }
    }

    /** The call throws this very class. */
    static void fails(String what, Class<? extends RuntimeException> due, Call call) {
        same(what, outcome(call), "throws." + due.getSimpleName());
    }

    static String outcome(Call call) {
        try {
            return Long.toString(call.answer());
        } catch (RuntimeException e) {
            return "throws." + e.getClass().getSimpleName();
        }
    }

    static void feed(OwnText x, String text) {
        byte[] bytes = text.getBytes(StandardCharsets.ISO_8859_1);
        for (int i = 0; i < bytes.length; i += 8) {
            int n = Math.min(8, bytes.length - i);
            long w = 0;
            for (int k = 0; k < n; k++) {
                w = w << 8 | bytes[i + k] & 255;
            }
            x.feed(w, n);
        }
    }

    static int read(OwnText x, String text) {
        feed(x, text);
        return x.read();
    }

    /** A new object that has read this text without a FAULT. */
    static OwnText good(String text) {
        OwnText x = new OwnText();
        int events = read(x, text);
        same("fault of " + text, x.fault(), 0);
        same("events of " + text, events, x.count(0));
        return x;
    }

    static void faulty(String text, int kind, int place) {
        OwnText x = new OwnText();
        same("read of " + text, read(x, text), -1000 - place);
        same("fault of " + text, x.fault(), kind);
    }

    /** Good, with this many EVENTS. */
    static void holds(String text, int events) {
        same("events of " + text, good(text).count(0), events);
    }

    static String printedText(OwnText x) {
        StringBuilder s = new StringBuilder();
        for (int i = 0; x.printed(i) != OwnText.NONE; i++) {
            s.append((char) x.printed(i));
        }
        return s.toString();
    }

    static String normalForm(OwnText x) {
        int size = x.write();
        String form = printedText(x);
        same("bytes of " + form, size, form.length());
        return form;
    }

    static void form(String text, String due) {
        same("form of " + text, normalForm(good(text)), due);
    }

    /** One answer of event for all EVENTS, with blanks between. */
    static String events(OwnText x, int what) {
        StringBuilder s = new StringBuilder();
        for (int i = 0; i < x.count(0); i++) {
            s.append(i > 0 ? " " : "").append(x.event(i, what));
        }
        return s.toString();
    }

    static String syllable(OwnText x, int i, int verse) {
        StringBuilder s = new StringBuilder();
        for (int k = 0; x.word(i, verse, k) != OwnText.NONE; k++) {
            s.append((char) x.word(i, verse, k));
        }
        return s.toString();
    }

    static String times(String part, int n) {
        return part.repeat(n);
    }

    static void done() {
        System.out.println(asked + " answers, " + wrong + " not as due");
        if (wrong != 0) {
            System.exit(1);
        }
    }
}
