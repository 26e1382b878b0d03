import java.io.IOException;
import java.nio.file.Files;
import java.nio.file.Path;

/** What README.md tells of texts and calls is so. */
public final class ReadmeTest {
    private static final String ARROW = "  =>  ";
    private static final String FAULT = "FAULT ";

    private static int forms = 0;
    private static int faults = 0;

    public static void main(String[] args) throws IOException {
        for (String line : Files.readAllLines(Path.of("README.md"))) {
            int arrow = line.indexOf(ARROW);
            if (arrow >= 0) {
                told(line.substring(0, arrow).stripTrailing(), line.substring(arrow + ARROW.length()));
            }
        }
        Check.same("some texts with a normal form", forms > 0 ? 1 : 0, 1);
        Check.same("a text for each KIND", faults, 8);
        firstCalls();
        Check.done();
    }

    private static void told(String text, String due) {
        if (!due.startsWith(FAULT)) {
            forms++;
            Check.form(text, due);
            return;
        }
        faults++;
        String[] numbers = due.substring(FAULT.length(), due.indexOf(':')).split(" at ");
        Check.same("KIND of " + text, Integer.parseInt(numbers[0]), faults);
        Check.faulty(text, Integer.parseInt(numbers[0]), Integer.parseInt(numbers[1]));
    }

    private static void firstCalls() {
        OwnText x = new OwnText();
        x.feed(0x6334206434L, 5);
        Check.same("read", x.read(), 2);
        Check.same("event", x.event(0, 5), 967680);
        Check.same("write", x.write(), 17);
        Check.same("printed", x.printed(0), 99);
        Check.same("printed text", Check.printedText(x), "c:967680 d:967680");
    }
}
