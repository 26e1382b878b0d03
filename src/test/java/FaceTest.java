import java.lang.reflect.Constructor;
import java.lang.reflect.Field;
import java.lang.reflect.Method;
import java.lang.reflect.Modifier;
import java.util.TreeSet;

/** Promises 1 to 5: a new object, feed, read, fault, count; and the class's face. */
public final class FaceTest {
    public static void main(String[] args) {
        newObject();
        feeding();
        tapeAfterReading();
        faultStays();
        faultLeavesTheRest();
        nothingStaysOpen();
        counting();
        face();
        Check.done();
    }

    private static void newObject() {
        OwnText x = new OwnText();
        int[] due = {0, 1, 0, 0, 0, 1, 0};
        for (int what = 0; what < due.length; what++) {
            Check.same("new count " + what, x.count(what), due[what]);
        }
        Check.same("new fault", x.fault(), 0);
        Check.same("new printed", x.printed(0), OwnText.NONE);
        Check.same("new at", x.at(0, 0, 1), OwnText.NONE);
        Check.fails("new event", IndexOutOfBoundsException.class, () -> x.event(0, 0));
        Check.fails("new pitch", IndexOutOfBoundsException.class, () -> x.pitch(0, 0, 0));
        Check.fails("new word", IndexOutOfBoundsException.class, () -> x.word(0, 1, 0));
        Check.fails("new walk", IndexOutOfBoundsException.class, () -> x.walk(0));
        Check.fails("new bar", IndexOutOfBoundsException.class, () -> x.bar(0, 0));
        Check.same("new write", x.write(), 0);
        Check.same("new feed", x.feed('c', 1), 1);
    }

    private static void feeding() {
        OwnText x = new OwnText();
        Check.fails("n 0", IllegalArgumentException.class, () -> x.feed(1, 0));
        Check.fails("n 9", IllegalArgumentException.class, () -> x.feed(1, 9));
        Check.fails("n least", IllegalArgumentException.class, () -> x.feed(1, Integer.MIN_VALUE));
        Check.fails("n most", IllegalArgumentException.class, () -> x.feed(1, Integer.MAX_VALUE));
        // only the lowest bytes come, the highest of them first
        Check.same("feed 2", x.feed(0x7878786364L, 2), 2);
        Check.same("read", x.read(), 2);
        Check.same("c", x.pitch(0, 0, 0), 0);
        Check.same("d", x.pitch(1, 0, 0), 1);
        for (int i = 0; i < 187; i++) {
            Check.same("feed 8", x.feed(0x2020202020202020L, 8), 8 * i + 8);
        }
        Check.fails("1504", IllegalStateException.class, () -> x.feed(0, 8));
        Check.fails("1501", IllegalStateException.class, () -> x.feed(0, 5));
        Check.fails("n ahead of the room", IllegalArgumentException.class, () -> x.feed(0, 9));
        Check.same("1500", x.feed(0x20202063L, 4), 1500);
        Check.fails("full", IllegalStateException.class, () -> x.feed(0, 1));
        Check.same("a full tape", x.read(), 1);
        Check.same("fed anew", x.feed(0x20, 1), 1);
        // bytes above 127
        OwnText y = new OwnText();
        y.feed(-1L, 8);
        Check.same("bytes 255", y.read(), -1000);
        Check.same("bytes 255", y.fault(), 1);
    }

    private static void tapeAfterReading() {
        OwnText x = Check.good("c d");
        Check.same("an empty tape", x.read(), 0);
        Check.same("all is gone", x.count(4), 0);
        Check.same("fault", Check.read(x, "c }"), -1002);
        Check.same("the tape is empty behind a FAULT too", Check.read(x, "e"), 1);
        Check.same("e", x.pitch(0, 0, 0), 2);
    }

    private static void faultStays() {
        OwnText x = new OwnText();
        Check.read(x, "c5");
        Check.same("kind 2", x.fault(), 2);
        Check.read(x, "c4");
        Check.same("a good text leaves it", x.fault(), 2);
        Check.read(x, "c4 |");
        Check.same("the latest", x.fault(), 7);
    }

    private static void faultLeavesTheRest() {
        String text = "=a{c} M 3/4 c4~ c W 1 \"la\" r | [$a / d2 e]";
        String faulty = "=b{d} =c{e} M 2/4 [e8 / f / <g a> W 2 \"x\"] ";
        OwnText x = Check.good(text);
        String before = Snapshot.of(x);
        x.write();
        Check.read(x, faulty + "}");
        Check.same("behind a FAULT of reading", Snapshot.of(x), before);
        Check.read(x, faulty + "M 4/4 c |");
        Check.same("behind a FAULT of performing", Snapshot.of(x), before);
        Check.same("what was printed", Check.printedText(x), Check.normalForm(Check.good(text)));
        Check.fails("a throw", IllegalArgumentException.class, () -> x.count(9));
        Check.same("behind a throw", Snapshot.of(x), before);
    }

    /** A FAULT in the midst of a text leaves nothing of it for the next one. */
    private static void nothingStaysOpen() {
        String[] faulty = {"=a p{$p", "L{X 1 2{g'' |}}", "T 3/2{c |}", "=a p{$p} $a{c |}", "[c / d |]",
            "[[[", "=a{L{L{L{L{L{L{L{", "R 9{M 3/4 c |}", "c~", "c W 1 \"a b\""};
        OwnText x = new OwnText();
        for (int n = 0; n < 30; n++) {
            for (String text : faulty) {
                Check.same("a FAULT", Check.read(x, text) <= -1000 ? 1 : 0, 1);
            }
        }
        Check.read(x, "=a p{$p");
        Check.same("no PARAMETER is KNOWN", Check.read(x, "$p"), -1001);
        Check.same("no PARAMETER is KNOWN", x.fault(), 4);
        String good = "M 3/4 =a p{$p} $a{c8 W 1 \"a\"} L{g} X 1 2{c} T 3/2{d} [e / f] c "
                + Check.times("T 1/1{", 8) + "c" + Check.times("}", 8);
        Check.read(x, good);
        Check.same("as on a new object", Snapshot.of(x), Snapshot.of(Check.good(good)));
        String many = "R 0{" + Check.times("<cdefga>", 185) + "}";
        for (int n = 0; n < 3; n++) {
            Check.same("many PITCHES", Check.read(x, many), 0);
        }
        Check.read(x, good);
        Check.same("behind many PITCHES", Snapshot.of(x), Snapshot.of(Check.good(good)));
    }

    private static void counting() {
        OwnText x = Check.good("=a{c} =b p{$p} M 3/4 $a r $b{[c/r2/]} R 2{}");
        int[] due = {5, 3, 3, 2, 14, 1, 2};
        for (int what = 0; what < due.length; what++) {
            Check.same("count " + what, x.count(what), due[what]);
        }
        Check.fails("count 7", IllegalArgumentException.class, () -> x.count(7));
        Check.fails("count -1", IllegalArgumentException.class, () -> x.count(-1));
        Check.same("a name that is not performed", Check.good("R 0{=a{c}}").count(3), 1);
    }

    private static void face() {
        TreeSet<String> seen = new TreeSet<>();
        for (Method m : OwnText.class.getDeclaredMethods()) {
            if (!Modifier.isPrivate(m.getModifiers()) && !m.isSynthetic()) {
                seen.add(m.getName());
                Check.same("public " + m.getName(), m.getModifiers(), Modifier.PUBLIC);
            }
        }
        Check.same("methods", seen.toString(),
                "[at, bar, count, event, fault, feed, pitch, printed, read, walk, word, write]");
        for (Field f : OwnText.class.getDeclaredFields()) {
            boolean open = !Modifier.isPrivate(f.getModifiers()) && !f.isSynthetic();
            Check.same("field " + f.getName(), open ? 1 : 0, f.getName().equals("NONE") ? 1 : 0);
        }
        Constructor<?>[] made = OwnText.class.getDeclaredConstructors();
        Check.same("constructors", made.length, 1);
        Check.same("NONE", OwnText.NONE, -1);
    }
}
